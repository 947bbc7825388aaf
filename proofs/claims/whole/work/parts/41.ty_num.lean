/-! Ints as whole numbers. -/
theorem ty_J_toInt {x : Int} (h : -2147483648 ≤ x ∧ x ≤ 2147483647) : (ty_J x).toInt = x := Int32.toInt_ofInt_of_le (by omega) (by omega)
theorem ty_J_add (x y : Int) : ty_J x + ty_J y = ty_J (x + y) := (Int32.ofInt_add x y).symm
theorem ty_J_sub (x y : Int) : ty_J x - ty_J y = ty_J (x - y) := by
  unfold ty_J
  rw [Int.sub_eq_add_neg, Int32.ofInt_add, Int32.ofInt_neg, Int32.sub_eq_add_neg]
theorem ty_J_mul (x y : Int) : ty_J x * ty_J y = ty_J (x * y) := (Int32.ofInt_mul x y).symm
theorem ty_J_neg (x : Int) : -ty_J x = ty_J (-x) := (Int32.ofInt_neg (a := x)).symm
theorem ty_J_eq {x y : Int} (hx : -2147483648 ≤ x ∧ x ≤ 2147483647) (hy : -2147483648 ≤ y ∧ y ≤ 2147483647) : ty_J x = ty_J y ↔ x = y := by
  rw [← Int32.toInt_inj, ty_J_toInt hx, ty_J_toInt hy]
theorem ty_J_lt {x y : Int} (hx : -2147483648 ≤ x ∧ x ≤ 2147483647) (hy : -2147483648 ≤ y ∧ y ≤ 2147483647) : ty_J x < ty_J y ↔ x < y := by
  rw [Int32.lt_iff_toInt_lt, ty_J_toInt hx, ty_J_toInt hy]
theorem ty_J_le {x y : Int} (hx : -2147483648 ≤ x ∧ x ≤ 2147483647) (hy : -2147483648 ≤ y ∧ y ≤ 2147483647) : ty_J x ≤ ty_J y ↔ x ≤ y := by
  rw [Int32.le_iff_toInt_le, ty_J_toInt hx, ty_J_toInt hy]
theorem ty_J_zero : ty_J 0 = 0 := by decide
theorem ty_J_nat {x : Int} (h : 0 ≤ x ∧ x ≤ 2147483647) : (ty_J x).toNatClampNeg = x.toNat := by
  rw [← Int32.toNat_toInt, ty_J_toInt (by omega)]
theorem ty_J_of (x : Int32) : ty_J x.toInt = x := Int32.ofInt_toInt x
theorem ty_toInt_r (x : Int32) : -2147483648 ≤ x.toInt ∧ x.toInt ≤ 2147483647 := by
  have h1 := Int32.le_toInt x
  have h2 := Int32.toInt_lt x
  omega
theorem ty_J_nneg {x : Int} (h : 0 ≤ x ∧ x ≤ 2147483647) : ¬ ty_J x < 0 := by
  rw [← ty_J_zero, ty_J_lt (by omega) (by omega)]
  omega
theorem ty_J_ofNat (n : Nat) : Int32.ofNat n = ty_J n := (Int32.ofInt_eq_ofNat (n := n)).symm
theorem ty_J_div {x y : Int} (hx : 0 ≤ x ∧ x ≤ 2147483647) (hy : 0 < y ∧ y ≤ 2147483647) : ty_J x / ty_J y = ty_J (x / y) := by
  have hq : 0 ≤ x / y := Int.ediv_nonneg (by omega) (by omega)
  have hq2 : x / y ≤ x := Int.ediv_le_self y (by omega)
  rw [← Int32.toInt_inj, ty_J_toInt (by omega), Int32.toInt_div, ty_J_toInt (by omega), ty_J_toInt (by omega), Int.tdiv_eq_ediv_of_nonneg (by omega)]
  rw [Int.bmod_eq_of_le] <;> omega
theorem ty_J_rem {x y : Int} (hx : 0 ≤ x ∧ x ≤ 2147483647) (hy : 0 < y ∧ y ≤ 2147483647) : ty_J x - ty_J x / ty_J y * ty_J y = ty_J (x % y) := by
  rw [ty_J_div hx hy, ty_J_mul, ty_J_sub]
  congr 1
  have := Int.emod_add_mul_ediv x y
  have e : y * (x / y) = x / y * y := Int.mul_comm _ _
  omega
theorem ty_bi {n : Int} (h : -128 ≤ n ∧ n ≤ 127) : (Int8.ofInt n).toInt32 = ty_J n := by
  rw [← Int32.toInt_inj, Int8.toInt_toInt32, Int8.toInt_ofInt_of_le (by omega) (by omega), ty_J_toInt (by omega)]
theorem ty_si {n : Int} (h : -32768 ≤ n ∧ n ≤ 32767) : (Int16.ofInt n).toInt32 = ty_J n := by
  rw [← Int32.toInt_inj, Int16.toInt_toInt32, Int16.toInt_ofInt_of_le (by omega) (by omega), ty_J_toInt (by omega)]
theorem ty_i2c {x : Int} (h : 0 ≤ x ∧ x ≤ 65535) : ((ty_J x).toUInt32 % 65536).toInt32 = ty_J x := by
  have e := lg_i2c_small (v := ty_J x) (by rw [ty_J_toInt (by omega)]; omega) (by rw [ty_J_toInt (by omega)]; omega)
  rw [UInt32.toUInt32_toUInt16] at e
  exact e
theorem ty_nar_c {x : Int} (h : 0 ≤ x ∧ x ≤ 65535) : vp_nar .char (ty_J x) = ty_J x := by
  have z2 : ty_J 65535 = 65535 := by decide
  have hf : ai_fit .char (.inl (ty_J x)) = true := by
    simp only [ai_fit, decide_eq_true_eq]
    rw [← ty_J_zero, ← z2, ty_J_le (by omega) (by omega), ty_J_le (by omega) (by omega)]
    exact h
  have e : narrow .char (.int (ty_J x)) = .int (ty_J x) := (ai_fit_ok (ρ := fun _ => 0) hf).1
  unfold vp_nar
  rw [e]
theorem ty_nar_z {x : Int} (h : x = 0 ∨ x = 1) : vp_nar .boolean (ty_J x) = ty_J x := by
  rcases h with rfl | rfl
  · rfl
  · rfl
theorem ty_not (x : Int) : ty_J x ^^^ ty_J (-1) = ty_J (-1 - x) := by
  have h1 : ty_J (-1) = -1 := by decide
  have h2 : ty_J (-1 - x) = -1 - ty_J x := by rw [← ty_J_sub, h1]
  rw [h1, h2]
  generalize ty_J x = w
  rw [← Int32.toBitVec_inj]
  simp only [Int32.toBitVec_xor, Int32.toBitVec_sub]
  generalize w.toBitVec = b
  have h3 : (-1 : Int32).toBitVec = BitVec.allOnes 32 := by decide
  rw [h3, BitVec.xor_allOnes]
  have h4 := BitVec.add_not_self b
  rw [← h4]
  rw [BitVec.add_comm, BitVec.add_sub_cancel]
theorem ty_fit_z {x : Int} (h : x = 0 ∨ x = 1) : ai_fit .boolean (.inl (ty_J x)) = true := by
  rcases h with rfl | rfl
  · rfl
  · rfl
theorem ty_fit_c {x : Int} (h : 0 ≤ x ∧ x ≤ 65535) : ai_fit .char (.inl (ty_J x)) = true := by
  have z2 : ty_J 65535 = 65535 := by decide
  simp only [ai_fit, decide_eq_true_eq]
  rw [← ty_J_zero, ← z2, ty_J_le (by omega) (by omega), ty_J_le (by omega) (by omega)]
  exact h
