/-! The library's rows: copies of int rows, lists. -/
theorem ty_shr1 {n : Int} (h : 0 ≤ n ∧ n ≤ 2147483647) : ty_J n >>> (ty_J 1 &&& 31) = ty_J (n / 2) := by
  have e1 : ty_J 1 &&& 31 = 1 := by decide
  rw [e1, ← Int32.toInt_inj, ty_J_toInt (by omega), ← Int32.toInt_toBitVec, Int32.toBitVec_shiftRight]
  have e2 : (1 : Int32).toBitVec.smod 32 = 1#32 := by decide
  rw [e2]
  show ((ty_J n).toBitVec.sshiftRight 1).toInt = n / 2
  rw [BitVec.toInt_sshiftRight, Int32.toInt_toBitVec, ty_J_toInt (by omega)]
  rw [Int.shiftRight_eq_div_pow]
  rfl
section JDL
variable {L : Nat} {xs : Nat → Int32} {S : ty_S}
theorem ty_ishr1 {d mi pc : Nat} {ls : ai_L} {st : List ai_V} {Q : ai_O → ty_S → Prop} {ks : List Nat} {x : Int} (row : gt_P.1 mi pc = some (0, .ishr, ks)) (h : 0 ≤ x ∧ x ≤ 2147483647) (k : ty_W L xs d mi (pc + 1) ls (.inl (ty_J (x / 2)) :: st) S Q) : ty_W L xs d mi pc ls (.inl (ty_J 1) :: .inl (ty_J x) :: st) S Q := ty_pure row (by simp only [ai_pure, ai_ii, ty_shr1 h]) k
theorem jd_copyOf (d : Nat) {a : ai_A} {n0 : Nat} {m : Int} (hs : ty_sk a.1 = (2, 0)) (hp : a.2 < S.2.2.2.2.2.2.1 a.1) (hn : S.2.2.2.2.2.1 a = n0) (hne : a ≠ (48, S.2.2.2.2.2.2.1 48)) (hm : (n0 : Int) < m ∧ m ≤ 60000000) : ty_C L xs (d + 1) 42 [.inr (.inr (some a)), .inl (ty_J m)] S
    (ty_oR fun z S' => z = some (48, S.2.2.2.2.2.2.1 48) ∧ S' = ty_mA (ty_nA S 48 m.toNat) (48, S.2.2.2.2.2.2.1 48) (fun j => if 0 ≤ j ∧ j < n0 then S.2.2.1 a j else 0)) := by
  have hS : ty_st S ∨ True := .inr trivial
  refine ty_enter (ml := 3) (ls := [_, _, _]) rfl rfl (Nat.le_of_ble_eq_true rfl) ?_
  refine ty_iload_n (pc := 0) (i := 1) (ks := []) (by decide +kernel) rfl ?_
  refine ty_aload_n (pc := 1) (i := 0) (ks := []) (by decide +kernel) rfl ?_
  refine ty_length (pc := 2) (ks := []) (by decide +kernel) (.inl hs) (by decide) hp hn ?_
  refine ty_icmp_ne (pc := 3) (off := 11) (t := 14) (ks := []) (by decide +kernel) (by omega) (by omega) (fun hc => ?_) (fun hc => ?_)
  · refine ty_iload_n (pc := 14) (i := 1) (ks := []) (by decide +kernel) rfl ?_
    refine ty_newA (pc := 15) (at_ := .int) (t := 0) (s := 48) (by decide +kernel) (by decide +kernel) (by decide) (by omega) ?_
    refine ty_astore_n (pc := 17) (i := 2) (ks := []) (ls' := [_, _, _]) (by decide +kernel) rfl ?_
    refine ty_aload_n (pc := 18) (i := 0) (ks := []) (by decide +kernel) rfl ?_
    refine ty_iconst (pc := 19) (n := 0) (ks := []) (by decide +kernel) ?_
    refine ty_aload_n (pc := 20) (i := 2) (ks := []) (by decide +kernel) rfl ?_
    refine ty_iconst (pc := 21) (n := 0) (ks := []) (by decide +kernel) ?_
    refine ty_aload_n (pc := 22) (i := 0) (ks := []) (by decide +kernel) rfl ?_
    -- at 23: .arraylength
    have hp' : a.2 < (ty_nA S 48 m.toNat).2.2.2.2.2.2.1 a.1 := by
      show a.2 < (if a.1 = 48 then S.2.2.2.2.2.2.1 48 + 1 else S.2.2.2.2.2.2.1 a.1)
      split
      · rename_i e; rw [e] at hp; omega
      · exact hp
    have hn' : (ty_nA S 48 m.toNat).2.2.2.2.2.1 a = n0 := by
      show (if a = (48, S.2.2.2.2.2.2.1 48) then m.toNat else S.2.2.2.2.2.1 a) = n0
      rw [if_neg hne]; exact hn
    have hp2 : (48, S.2.2.2.2.2.2.1 48).2 < (ty_nA S 48 m.toNat).2.2.2.2.2.2.1 (48, S.2.2.2.2.2.2.1 48).1 := by
      show S.2.2.2.2.2.2.1 48 < (if 48 = 48 then S.2.2.2.2.2.2.1 48 + 1 else S.2.2.2.2.2.2.1 48)
      simp
    have hn2 : (ty_nA S 48 m.toNat).2.2.2.2.2.1 (48, S.2.2.2.2.2.2.1 48) = m.toNat := by
      show (if (48, S.2.2.2.2.2.2.1 48) = (48, S.2.2.2.2.2.2.1 48) then m.toNat else _) = m.toNat
      simp
    refine ty_length (pc := 23) (ks := []) (by decide +kernel) (.inl hs) (by decide) hp' hn' ?_
    refine ty_iload_n (pc := 24) (i := 1) (ks := []) (by decide +kernel) rfl ?_
    refine ty_min (pc := 25) (ins := .invokestatic 304) (ks := []) (by decide +kernel) (by omega) (by omega) (Nat.le_of_ble_eq_true rfl) (fun z hz => ?_)
    -- at 28: .invokestatic 150
    rw [if_neg (by omega)] at hz
    subst hz
    refine ty_copyi (pc := 28) (ins := .invokestatic 150) (by decide +kernel) hs rfl hp' hn' (by rfl) rfl hp2 hn2 (by omega) (Nat.le_of_ble_eq_true rfl) ?_
    refine ty_aload_n (pc := 31) (i := 2) (ks := []) (by decide +kernel) rfl ?_
    -- at 32: .areturn
    refine ty_ret_a (pc := 32) (ks := []) (ty := (.array .int)) (by decide +kernel) rfl rfl ?_
    refine ⟨_, rfl, rfl, ?_⟩
    congr 1
    funext j
    by_cases e : 0 ≤ j ∧ j < 0 + (n0 : Int)
    · rw [if_pos e, if_pos (by omega)]
      show (if a = (48, S.2.2.2.2.2.2.1 48) then (fun _ => (0 : Int)) else S.2.2.1 a) (0 + (j - 0)) = S.2.2.1 a j
      rw [if_neg hne, show (0 : Int) + (j - 0) = j by omega]
    · rw [if_neg e, if_neg (by omega)]
      show (if (48, S.2.2.2.2.2.2.1 48) = (48, S.2.2.2.2.2.2.1 48) then (fun _ => (0 : Int)) else S.2.2.1 (48, S.2.2.2.2.2.2.1 48)) j = 0
      simp
  · omega
theorem jd_size (d : Nat) {a : ai_A} (hs : ty_sk a.1 = (1, 6)) (hp : a.2 < S.2.2.2.2.2.2.1 a.1) : ty_C L xs (d + 1) 46 [.inr (.inr (some a))] S (ty_oI fun z S' => z = S.1 a 1 ∧ S' = S) := by
  refine ty_enter (ml := 1) (ls := [_]) rfl rfl (Nat.le_of_ble_eq_true rfl) ?_
  refine ty_aload_n (pc := 0) (i := 0) (ks := []) (by decide +kernel) rfl ?_
  refine ty_getI (pc := 1) (idx := 48) (ci := 6) (f := 1) (by decide +kernel) hs rfl hp (fun v hv => ?_)
  subst hv
  refine ty_ret_i (pc := 4) (ks := []) (ty := .int) (by decide +kernel) rfl rfl ?_
  exact ⟨_, rfl, rfl, rfl⟩
theorem jd_fill (d : Nat) {a : ai_A} {n : Nat} {x : Int} (hs : ty_sk a.1 = (2, 0)) (hp : a.2 < S.2.2.2.2.2.2.1 a.1) (hn : S.2.2.2.2.2.1 a = n) (hb : n ≤ 60000000) : ty_C L xs (d + 1) 32 [.inr (.inr (some a)), .inl (ty_J x)] S (ty_oV fun S' => S' = ty_mA S a (fun j => if 0 ≤ j ∧ j < n then x else S.2.2.1 a j)) := by
  have loop : ∀ (r m : Nat), m + r = n → ty_W L xs d 32 5 [some (.inr (.inr (some a))), some (.inl (ty_J x)), some (.inl (ty_J m)), some (.inl (ty_J n))] [] (ty_mA S a (fun j => if 0 ≤ j ∧ j < m then x else S.2.2.1 a j)) (ty_oV fun S' => S' = ty_mA S a (fun j => if 0 ≤ j ∧ j < n then x else S.2.2.1 a j)) := by
    intro r
    induction r with
    | zero =>
      intro m hm
      refine ty_iload_n (pc := 5) (i := 2) (ks := []) (by decide +kernel) rfl ?_
      refine ty_iload_n (pc := 6) (i := 3) (ks := []) (by decide +kernel) rfl ?_
      -- at 7: .if_icmp .ge 13
      refine ty_icmp_ge (pc := 7) (off := 13) (t := 20) (ks := []) (by decide +kernel) (by omega) (by omega) (fun hc => ?_) (fun hc => ?_)
      · refine ty_ret_v (pc := 20) (ks := []) (by decide +kernel) rfl ?_
        have e : m = n := by omega
        subst e
        exact ⟨rfl, rfl⟩
      · omega
    | succ r ih =>
      intro m hm
      refine ty_iload_n (pc := 5) (i := 2) (ks := []) (by decide +kernel) rfl ?_
      refine ty_iload_n (pc := 6) (i := 3) (ks := []) (by decide +kernel) rfl ?_
      -- at 7: .if_icmp .ge 13
      refine ty_icmp_ge (pc := 7) (off := 13) (t := 20) (ks := []) (by decide +kernel) (by omega) (by omega) (fun hc => ?_) (fun hc => ?_)
      · omega
      · refine ty_aload_n (pc := 10) (i := 0) (ks := []) (by decide +kernel) rfl ?_
        refine ty_iload_n (pc := 11) (i := 2) (ks := []) (by decide +kernel) rfl ?_
        refine ty_iload_n (pc := 12) (i := 1) (ks := []) (by decide +kernel) rfl ?_
        refine ty_iastore (pc := 13) (ks := []) (by decide +kernel) hs rfl hp hn (by omega) ?_
        refine ty_iinc (pc := 14) (i := 2) (n := 1) (ks := []) (ls' := [_, _, _, _]) (by decide +kernel) rfl rfl ?_
        refine ty_goto (pc := 17) (off := (-12)) (t := 5) (ks := []) (by decide +kernel) ?_
        -- at 5: .iload_n 2
        rw [ty_sA_mA]
        have := ih (m + 1) (by omega)
        have e : (fun j : Int => if j = (m : Int) then x else if 0 ≤ j ∧ j < (m : Int) then x else S.2.2.1 a j) = fun j => if 0 ≤ j ∧ j < ((m + 1 : Nat) : Int) then x else S.2.2.1 a j := by
          funext j
          by_cases e1 : j = m
          · rw [if_pos e1, if_pos (by omega)]
          · rw [if_neg e1]
            by_cases e2 : 0 ≤ j ∧ j < (m : Int)
            · rw [if_pos e2, if_pos (by omega)]
            · rw [if_neg e2, if_neg (by omega)]
        rw [e]
        exact this
  refine ty_enter (ml := 4) (ls := [_, _, _, _]) rfl rfl (Nat.le_of_ble_eq_true rfl) ?_
  refine ty_iconst (pc := 0) (n := 0) (ks := []) (by decide +kernel) ?_
  refine ty_istore_n (pc := 1) (i := 2) (ks := []) (ls' := [_, _, _, _]) (by decide +kernel) rfl ?_
  refine ty_aload_n (pc := 2) (i := 0) (ks := []) (by decide +kernel) rfl ?_
  refine ty_length (pc := 3) (ks := []) (by decide +kernel) (.inl hs) (by decide) hp hn ?_
  refine ty_istore_n (pc := 4) (i := 3) (ks := []) (ls' := [_, _, _, _]) (by decide +kernel) rfl ?_
  have := loop n 0 (by omega)
  have e : (fun j : Int => if 0 ≤ j ∧ j < ((0 : Nat) : Int) then x else S.2.2.1 a j) = S.2.2.1 a := by
    funext j
    rw [if_neg (by omega)]
  rw [e, ty_mA_self] at this
  exact this
end JDL
