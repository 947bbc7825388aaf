/-! The reference's count. -/
/-- how many of the first places hold 0 -/
def rg_n (g : Int → Int) : Nat → Int
  | 0 => 0
  | k + 1 => rg_n g k + (if (ty_J (g k)).toInt = 0 then 1 else 0)
theorem rg_n_r {g : Int → Int} : ∀ k, 0 ≤ rg_n g k ∧ rg_n g k ≤ k
  | 0 => ⟨Int.le_refl _, Int.le_refl _⟩
  | k + 1 => by
    have := rg_n_r (g := g) k
    unfold rg_n
    split <;> omega
theorem mo_wc_none {aw : Int → Bool} {a : Nat} : ∀ (k : Nat), (∀ i : Int, (a : Int) ≤ i → i < a + k → aw i ≠ true) → mo_wc aw (a + k) = mo_wc aw a
  | 0, _ => rfl
  | k + 1, h => by
    show mo_wc aw (a + k) + (if aw ((a + k : Nat) : Int) = true then 1 else 0) = _
    rw [if_neg (h _ (by omega) (by omega)), mo_wc_none k (fun i i0 i1 => h i i0 (by omega))]
    omega
theorem rg_wc {G : mo_G} {ta : Int → Int} {nc : Int} {A : Nat → Int → Int} {gone al ar rl : Int → Int} {na an : Int} {aw : Int → Bool} (h : rx_A G ta nc A gone al ar rl na an aw) : rg_n gone na.toNat = mo_wc aw an.toNat := by
  obtain ⟨h1, h2, h3, h4⟩ := h
  have key : ∀ k : Nat, (k : Int) ≤ na → rg_n gone k = mo_wc aw (ru_pos rl k).toNat ∧ 0 ≤ ru_pos rl k ∧ ru_pos rl k ≤ an := by
    intro k
    induction k with
    | zero =>
      intro _
      have e : ru_pos rl ((0 : Nat) : Int) = 0 := if_pos rfl
      rw [e]
      exact ⟨rfl, Int.le_refl _, by omega⟩
    | succ k ih =>
      intro hk
      obtain ⟨i1, i2, i3⟩ := ih (by omega)
      obtain ⟨g1, -, -, g4⟩ := h2 k (by omega) (by omega)
      have e : ru_pos rl ((k + 1 : Nat) : Int) = rl k + 1 := by
        unfold ru_pos
        rw [if_neg (by omega), show ((k + 1 : Nat) : Int) - 1 = k by omega]
      have hle : ru_pos rl (k : Int) ≤ rl k := by
        unfold ru_pos
        by_cases e0 : (k : Int) = 0
        · rw [if_pos e0]
          exact g1.1
        · rw [if_neg e0]
          have := h3 (k - 1) k (by omega) (by omega) (by omega)
          omega
      rw [e]
      refine ⟨?_, by omega, by omega⟩
      have hgap := mo_wc_none (aw := aw) (a := (ru_pos rl (k : Int)).toNat) ((rl k).toNat - (ru_pos rl (k : Int)).toNat) (fun i j0 j1 hi => by
        obtain ⟨j, a0, a1, a2⟩ := h4 i (by omega) (by omega) hi
        -- j is below k, and then i below ru_pos
        rcases Int.lt_or_le j k with z | z
        · have : rl j < ru_pos rl (k : Int) := by
            unfold ru_pos
            rw [if_neg (by omega)]
            by_cases e1 : j = (k : Int) - 1
            · rw [e1]; omega
            · have := h3 j (k - 1) a0 (by omega) (by omega)
              omega
          omega
        · rcases Int.lt_or_le (k : Int) j with y | y
          · have := h3 k j (by omega) y a1
            omega
          · have : j = (k : Int) := by omega
            rw [this] at a2
            omega)
      rw [show (ru_pos rl (k : Int)).toNat + ((rl k).toNat - (ru_pos rl (k : Int)).toNat) = (rl k).toNat by omega] at hgap
      rw [show (rl (k : Int) + 1).toNat = (rl k).toNat + 1 by omega]
      show rg_n gone k + (if (ty_J (gone k)).toInt = 0 then 1 else 0) = mo_wc aw (rl k).toNat + (if aw (((rl k).toNat : Nat) : Int) = true then 1 else 0)
      rw [hgap, i1, show (((rl (k : Int)).toNat : Nat) : Int) = rl k by omega, g4]
      by_cases ea : aw (rl k) = true
      · rw [if_pos ea, if_pos ea, if_pos (by decide)]
      · rw [if_neg ea, if_neg ea, if_neg (by decide)]
  obtain ⟨k1, k2, k3⟩ := key na.toNat (by omega)
  rw [show ((na.toNat : Nat) : Int) = na by omega] at k1 k2 k3
  rw [k1]
  have := mo_wc_none (aw := aw) (a := (ru_pos rl na).toNat) (an.toNat - (ru_pos rl na).toNat) (fun i j0 j1 hi => by
    obtain ⟨j, a0, a1, a2⟩ := h4 i (by omega) (by omega) hi
    have : rl j < ru_pos rl na := by
      unfold ru_pos
      rw [if_neg (by omega)]
      by_cases e1 : j = na - 1
      · rw [e1]; omega
      · have := h3 j (na - 1) a0 (by omega) (by omega)
        omega
    omega)
  rw [show (ru_pos rl na).toNat + (an.toNat - (ru_pos rl na).toNat) = an.toNat by omega] at this
  exact this.symm
section RMC
variable {L : Nat} {xs : Nat → Int32} {S S0 : ty_S} {I : Nat → Int} {A : Nat → Int → Int} {tau : dk_T} {s : Nat → Nat} {tx : List Int} {pl : Int} {m : Nat} {as : Option mo_M}
theorem rm_count (d : Nat) (hS : ty_st S) (hR : rm_R S0 I A tau s tx pl m as) (hMI : ∀ M, as = some M → mo_MI (dk_P S0 tau s m) M) (hplr : -1 ≤ pl ∧ pl ≤ 48) {w : Int} (hw : -2147483648 ≤ w ∧ w ≤ 2147483647) :
    ty_C L xs (d + 2) 149 [.inr (.inr (some (94, 0))), .inl (ty_J w)] (rm_s S I A) (ty_oI fun z S' => z = dk_cnt tx pl m as w ∧ ∃ I' A', S' = rm_s S I' A' ∧ rm_R S0 I' A' tau s tx pl m as) := by
  have hR1 := rm_R_thr hR (v := 0)
  obtain ⟨h1, h2, h3, h4, h5, h6⟩ := hR
  have hap := h4.2
  have hasr : 0 ≤ I 38 ∧ I 38 ≤ 1 := by rw [h5]; split <;> omega
  obtain ⟨N, hN⟩ : ∃ N : Nat, I 35 = N := ⟨(I 35).toNat, by omega⟩
  -- behind the loop
  have tail : ∀ x3 : Int32, ty_W L xs (d + 1) 149 35 [some (.inr (.inr (some (94, 0)))), some (.inl (ty_J w)), some (.inl (ty_J (rg_n (A 77) N))), some (.inl x3)] [] (rm_s S (rm_u I 11 0) A) (ty_oI fun z S' => z = dk_cnt tx pl m as w ∧ ∃ I' A', S' = rm_s S I' A' ∧ rm_R S0 I' A' tau s tx pl m as) := by
    intro x3
    have hrg := rg_n_r (g := A 77) N
    unfold dk_cnt
    refine ty_iload_n (pc := 35) (i := 1) (ks := []) (by decide +kernel) rfl ?_
    -- at 36: .ifCond .ne 8
    refine ty_if_ne (pc := 36) (off := 8) (t := 44) (ks := []) (by decide +kernel) (by omega) (fun hc => ?_) (fun hc => ?_)
    rotate_left
    · refine ty_aload_n (pc := 39) (i := 0) (ks := []) (by decide +kernel) rfl ?_
      refine ty_getI (pc := 40) (idx := 31) (ci := 13) (f := 9) (by decide +kernel) (by first | rfl | assumption) rfl (by first | exact hS.1 _ _ rfl | assumption) (fun v hv => ?_)
      simp (decide := true) only [rm_I, rm_u, rm_w, ty_sI, ty_sR, ty_sA, ty_sQ, ty_mA, ty_mQ, ↓reduceIte, false_and, and_false, true_and, and_true, and_self] at hv
      subst hv
      -- at 43: .ireturn
      refine ty_ret_i (pc := 43) (ks := []) (ty := .int) (by decide +kernel) rfl rfl ?_
      refine ⟨_, rfl, ?_, _, A, rfl, hR1⟩
      rw [if_pos hc]
      exact h2
    have w0 := hc
    clear hc
    rw [if_neg w0]
    refine ty_iload_n (pc := 44) (i := 1) (ks := []) (by decide +kernel) rfl ?_
    refine ty_iconst (pc := 45) (n := 1) (ks := []) (by decide +kernel) ?_
    -- at 46: .if_icmp .ne 8
    refine ty_icmp_ne (pc := 46) (off := 8) (t := 54) (ks := []) (by decide +kernel) (by omega) (by omega) (fun hc => ?_) (fun hc => ?_)
    rotate_left
    · refine ty_aload_n (pc := 49) (i := 0) (ks := []) (by decide +kernel) rfl ?_
      refine ty_getI (pc := 50) (idx := 146) (ci := 13) (f := 7) (by decide +kernel) (by first | rfl | assumption) rfl (by first | exact hS.1 _ _ rfl | assumption) (fun v hv => ?_)
      simp (decide := true) only [rm_I, rm_u, rm_w, ty_sI, ty_sR, ty_sA, ty_sQ, ty_mA, ty_mQ, ↓reduceIte, false_and, and_false, true_and, and_true, and_self] at hv
      subst hv
      -- at 53: .ireturn
      refine ty_ret_i (pc := 53) (ks := []) (ty := .int) (by decide +kernel) rfl rfl ?_
      refine ⟨_, rfl, ?_, _, A, rfl, hR1⟩
      rw [if_pos hc]
      exact h1.1
    have w1 := hc
    clear hc
    rw [if_neg w1]
    refine ty_iload_n (pc := 54) (i := 1) (ks := []) (by decide +kernel) rfl ?_
    refine ty_iconst (pc := 55) (n := 2) (ks := []) (by decide +kernel) ?_
    -- at 56: .if_icmp .ne 8
    refine ty_icmp_ne (pc := 56) (off := 8) (t := 64) (ks := []) (by decide +kernel) (by omega) (by omega) (fun hc => ?_) (fun hc => ?_)
    rotate_left
    · refine ty_aload_n (pc := 59) (i := 0) (ks := []) (by decide +kernel) rfl ?_
      refine ty_getI (pc := 60) (idx := 171) (ci := 13) (f := 8) (by decide +kernel) (by first | rfl | assumption) rfl (by first | exact hS.1 _ _ rfl | assumption) (fun v hv => ?_)
      simp (decide := true) only [rm_I, rm_u, rm_w, ty_sI, ty_sR, ty_sA, ty_sQ, ty_mA, ty_mQ, ↓reduceIte, false_and, and_false, true_and, and_true, and_self] at hv
      subst hv
      -- at 63: .ireturn
      refine ty_ret_i (pc := 63) (ks := []) (ty := .int) (by decide +kernel) rfl rfl ?_
      refine ⟨_, rfl, ?_, _, A, rfl, hR1⟩
      rw [if_pos hc]
      exact h3.1.1
    have w2 := hc
    clear hc
    rw [if_neg w2]
    refine ty_iload_n (pc := 64) (i := 1) (ks := []) (by decide +kernel) rfl ?_
    refine ty_iconst (pc := 65) (n := 3) (ks := []) (by decide +kernel) ?_
    refine ty_bipush (pc := 66) (n := 6) (ks := []) (by decide +kernel) (by omega) ?_
    -- at 68: .invokestatic 138
    refine ty_calls (pc := 68) (idx := 138) (m := 105) (n := 3) (c := 0) (av := [_, _, _]) (r := []) (by decide +kernel) rfl rfl (Nat.le_of_ble_eq_true rfl) ((rm_in (L := L) (xs := xs) 0 (v := w) (a := 3) (b := 6) hw (by decide) (by decide)).deeper (by omega)) ?_
    rintro _ S1 ⟨f, rfl, hf, rfl⟩
    refine ty_KI ?_
    have hf01 : f = 0 ∨ f = 1 := by rw [hf]; split <;> omega
    by_cases hwr : 3 ≤ w ∧ w ≤ 6
    rotate_left
    · rw [if_neg hwr] at hf
      subst hf
      refine ty_if_ne (pc := 71) (off := 5) (t := 76) (ks := []) (by decide +kernel) (by omega) (fun hc => ?_) (fun hc => ?_)
      · exact absurd rfl hc
      clear hc
      refine ty_iconst (pc := 74) (n := (-1)) (ks := []) (by decide +kernel) ?_
      -- at 75: .ireturn
      refine ty_ret_i (pc := 75) (ks := []) (ty := .int) (by decide +kernel) rfl rfl ?_
      refine ⟨_, rfl, ?_, _, A, rfl, hR1⟩
      rw [if_neg (by omega), if_neg (by omega), if_neg (by omega), if_neg (by omega)]
    rw [if_pos hwr] at hf
    subst hf
    refine ty_if_ne (pc := 71) (off := 5) (t := 76) (ks := []) (by decide +kernel) (by omega) (fun hc => ?_) (fun hc => ?_)
    rotate_left
    · omega
    clear hc
    refine ty_aload_n (pc := 76) (i := 0) (ks := []) (by decide +kernel) rfl ?_
    refine ty_getI (pc := 77) (idx := 177) (ci := 13) (f := 38) (by decide +kernel) (by first | rfl | assumption) rfl (by first | exact hS.1 _ _ rfl | assumption) (fun v hv => ?_)
    simp (decide := true) only [rm_I, rm_u, rm_w, ty_sI, ty_sR, ty_sA, ty_sQ, ty_mA, ty_mQ, ↓reduceIte, false_and, and_false, true_and, and_true, and_self] at hv
    subst hv
    -- at 80: .ifCond .ne 5
    cases as with
    | none =>
      have hask : I 38 = 0 := h5
      refine ty_if_ne (pc := 80) (off := 5) (t := 85) (ks := []) (by decide +kernel) (by omega) (fun hc => ?_) (fun hc => ?_)
      · exact absurd hask hc
      clear hc
      refine ty_iconst (pc := 83) (n := 0) (ks := []) (by decide +kernel) ?_
      -- at 84: .ireturn
      refine ty_ret_i (pc := 84) (ks := []) (ty := .int) (by decide +kernel) rfl rfl ?_
      refine ⟨_, rfl, ?_, _, A, rfl, hR1⟩
      simp only
      rcases (show w = 3 ∨ w = 4 ∨ w = 5 ∨ w = 6 by omega) with rfl | rfl | rfl | rfl <;> rfl
    | some M =>
      have hask : I 38 = 1 := h5
      obtain ⟨-, -, ta, rl, nc, ng, na, x1, x2, x3', x4, x5, x6, x7, x8, x9, x10, ⟨v1, v2, v3, v4, v5⟩, -⟩ := h6
      have hMI := hMI M rfl
      have hb := hMI.1
      have hb2 := hMI.2.1
      have x4b : I 27 = M.2.1 := x4.2
      have x8 : I 35 = na := x8
      have x9 : I 33 = M.2.2.2.2.2.2.2.1.length := x9
      have x10 : I 31 = M.2.2.2.2.2.2.2.2 := x10
      have hwc := rg_wc v5
      have hgo : rr A 4 = A 77 := rfl
      rw [hgo, ← x8, hN, show ((N : Nat) : Int).toNat = N by omega] at hwc
      refine ty_if_ne (pc := 80) (off := 5) (t := 85) (ks := []) (by decide +kernel) (by omega) (fun hc => ?_) (fun hc => ?_)
      rotate_left
      · omega
      clear hc
      refine ty_iload_n (pc := 85) (i := 1) (ks := []) (by decide +kernel) rfl ?_
      refine ty_iconst (pc := 86) (n := 3) (ks := []) (by decide +kernel) ?_
      -- at 87: .if_icmp .ne 10
      refine ty_icmp_ne (pc := 87) (off := 10) (t := 97) (ks := []) (by decide +kernel) (by omega) (by omega) (fun hc => ?_) (fun hc => ?_)
      rotate_left
      · refine ty_aload_n (pc := 90) (i := 0) (ks := []) (by decide +kernel) rfl ?_
        refine ty_getI (pc := 91) (idx := 317) (ci := 13) (f := 31) (by decide +kernel) (by first | rfl | assumption) rfl (by first | exact hS.1 _ _ rfl | assumption) (fun v hv => ?_)
        simp (decide := true) only [rm_I, rm_u, rm_w, ty_sI, ty_sR, ty_sA, ty_sQ, ty_mA, ty_mQ, ↓reduceIte, false_and, and_false, true_and, and_true, and_self] at hv
        subst hv
        refine ty_goto (pc := 94) (off := 28) (t := 122) (ks := []) (by decide +kernel) ?_
        -- at 122: .ireturn
        rw [x10]
        refine ty_ret_i (pc := 122) (ks := []) (ty := .int) (by decide +kernel) rfl rfl ?_
        refine ⟨_, rfl, ?_, _, A, rfl, hR1⟩
        rw [if_pos hc]
      have w3 := hc
      clear hc
      refine ty_iload_n (pc := 97) (i := 1) (ks := []) (by decide +kernel) rfl ?_
      refine ty_iconst (pc := 98) (n := 4) (ks := []) (by decide +kernel) ?_
      -- at 99: .if_icmp .ne 10
      refine ty_icmp_ne (pc := 99) (off := 10) (t := 109) (ks := []) (by decide +kernel) (by omega) (by omega) (fun hc => ?_) (fun hc => ?_)
      rotate_left
      · refine ty_aload_n (pc := 102) (i := 0) (ks := []) (by decide +kernel) rfl ?_
        refine ty_getI (pc := 103) (idx := 289) (ci := 13) (f := 33) (by decide +kernel) (by first | rfl | assumption) rfl (by first | exact hS.1 _ _ rfl | assumption) (fun v hv => ?_)
        simp (decide := true) only [rm_I, rm_u, rm_w, ty_sI, ty_sR, ty_sA, ty_sQ, ty_mA, ty_mQ, ↓reduceIte, false_and, and_false, true_and, and_true, and_self] at hv
        subst hv
        refine ty_goto (pc := 106) (off := 16) (t := 122) (ks := []) (by decide +kernel) ?_
        -- at 122: .ireturn
        rw [x9]
        refine ty_ret_i (pc := 122) (ks := []) (ty := .int) (by decide +kernel) rfl rfl ?_
        refine ⟨_, rfl, ?_, _, A, rfl, hR1⟩
        rw [if_neg w3, if_pos hc]
      have w4 := hc
      clear hc
      refine ty_iload_n (pc := 109) (i := 1) (ks := []) (by decide +kernel) rfl ?_
      refine ty_iconst (pc := 110) (n := 5) (ks := []) (by decide +kernel) ?_
      -- at 111: .if_icmp .ne 7
      refine ty_icmp_ne (pc := 111) (off := 7) (t := 118) (ks := []) (by decide +kernel) (by omega) (by omega) (fun hc => ?_) (fun hc => ?_)
      rotate_left
      · refine ty_iload_n (pc := 114) (i := 2) (ks := []) (by decide +kernel) rfl ?_
        refine ty_goto (pc := 115) (off := 7) (t := 122) (ks := []) (by decide +kernel) ?_
        -- at 122: .ireturn
        rw [hwc]
        refine ty_ret_i (pc := 122) (ks := []) (ty := .int) (by decide +kernel) rfl rfl ?_
        refine ⟨_, rfl, ?_, _, A, rfl, hR1⟩
        rw [if_neg w3, if_neg w4, if_pos hc]
      have w5 := hc
      clear hc
      refine ty_aload_n (pc := 118) (i := 0) (ks := []) (by decide +kernel) rfl ?_
      refine ty_getI (pc := 119) (idx := 194) (ci := 13) (f := 27) (by decide +kernel) (by first | rfl | assumption) rfl (by first | exact hS.1 _ _ rfl | assumption) (fun v hv => ?_)
      simp (decide := true) only [rm_I, rm_u, rm_w, ty_sI, ty_sR, ty_sA, ty_sQ, ty_mA, ty_mQ, ↓reduceIte, false_and, and_false, true_and, and_true, and_self] at hv
      subst hv
      -- at 122: .ireturn
      rw [x4b]
      refine ty_ret_i (pc := 122) (ks := []) (ty := .int) (by decide +kernel) rfl rfl ?_
      refine ⟨_, rfl, ?_, _, A, rfl, hR1⟩
      rw [if_neg w3, if_neg w4, if_neg w5, if_pos (by omega)]
  have loop : ∀ (k j : Nat), j + k = N → ty_W L xs (d + 1) 149 9 [some (.inr (.inr (some (94, 0)))), some (.inl (ty_J w)), some (.inl (ty_J (rg_n (A 77) j))), some (.inl (ty_J j))] [] (rm_s S (rm_u I 11 0) A) (ty_oI fun z S' => z = dk_cnt tx pl m as w ∧ ∃ I' A', S' = rm_s S I' A' ∧ rm_R S0 I' A' tau s tx pl m as) := by
    intro k
    induction k with
    | zero =>
      intro j hj
      have e : j = N := by omega
      subst e
      refine ty_iload_n (pc := 9) (i := 3) (ks := []) (by decide +kernel) rfl ?_
      refine ty_aload_n (pc := 10) (i := 0) (ks := []) (by decide +kernel) rfl ?_
      refine ty_getI (pc := 11) (idx := 263) (ci := 13) (f := 35) (by decide +kernel) (by first | rfl | assumption) rfl (by first | exact hS.1 _ _ rfl | assumption) (fun v hv => ?_)
      simp (decide := true) only [rm_I, rm_u, rm_w, ty_sI, ty_sR, ty_sA, ty_sQ, ty_mA, ty_mQ, ↓reduceIte, false_and, and_false, true_and, and_true, and_self] at hv
      subst hv
      -- at 14: .if_icmp .ge 21
      rw [hN]
      refine ty_icmp_ge (pc := 14) (off := 21) (t := 35) (ks := []) (by decide +kernel) (by omega) (by omega) (fun hc => ?_) (fun hc => ?_)
      · exact tail _
      · omega
    | succ k ih =>
      intro j hj
      have hrg := rg_n_r (g := A 77) j
      have hnext : rg_n (A 77) (j + 1) = rg_n (A 77) j + (if (ty_J (A 77 j)).toInt = 0 then 1 else 0) := rfl
      have hle := Int32.le_toInt (ty_J (A 77 j))
      have hlt := Int32.toInt_lt (ty_J (A 77 j))
      refine ty_iload_n (pc := 9) (i := 3) (ks := []) (by decide +kernel) rfl ?_
      refine ty_aload_n (pc := 10) (i := 0) (ks := []) (by decide +kernel) rfl ?_
      refine ty_getI (pc := 11) (idx := 263) (ci := 13) (f := 35) (by decide +kernel) (by first | rfl | assumption) rfl (by first | exact hS.1 _ _ rfl | assumption) (fun v hv => ?_)
      simp (decide := true) only [rm_I, rm_u, rm_w, ty_sI, ty_sR, ty_sA, ty_sQ, ty_mA, ty_mQ, ↓reduceIte, false_and, and_false, true_and, and_true, and_self] at hv
      subst hv
      -- at 14: .if_icmp .ge 21
      rw [hN]
      refine ty_icmp_ge (pc := 14) (off := 21) (t := 35) (ks := []) (by decide +kernel) (by omega) (by omega) (fun hc => ?_) (fun hc => ?_)
      · omega
      clear hc
      refine ty_aload_n (pc := 17) (i := 0) (ks := []) (by decide +kernel) rfl ?_
      refine ty_getS (b := (77, 0)) (pc := 18) (idx := 87) (ci := 13) (f := 47) (by decide +kernel) (by first | rfl | assumption) rfl (by first | exact hS.1 _ _ rfl | assumption) (by first | exact hS.2.2 _ _ _ _ rfl | assumption) ?_
      refine ty_iload_n (pc := 21) (i := 3) (ks := []) (by decide +kernel) rfl ?_
      refine ty_iaload (pc := 22) (ks := []) (by decide +kernel) (by first | rfl | assumption) (by rfl) (by first | exact hS.1 _ _ rfl | assumption) (by first | exact hS.2.1 _ _ _ rfl | assumption) (by omega) (fun v hv => ?_)
      rw [rm_A (by decide)] at hv
      first | (simp (decide := true) only [rm_w, ty_sI, ty_sR, ty_sA, ty_sQ, ty_mA, ty_mQ, ↓reduceIte, false_and, and_false, true_and, and_true, and_self] at hv) | skip
      subst hv
      -- at 23: .ifCond .ne 6
      rw [← ty_J_of (ty_J (A 77 j))]
      generalize (ty_J (A 77 j)).toInt = y at hle hlt hnext
      refine ty_if_ne (pc := 23) (off := 6) (t := 29) (ks := []) (by decide +kernel) (by omega) (fun hc => ?_) (fun hc => ?_)
      · rw [if_neg hc] at hnext
        refine ty_iinc (pc := 29) (i := 3) (n := 1) (ks := []) (ls' := [_, _, _, _]) (by decide +kernel) rfl rfl ?_
        refine ty_goto (pc := 32) (off := (-23)) (t := 9) (ks := []) (by decide +kernel) ?_
        -- at 9: .iload_n 3
        have := ih (j + 1) (by omega)
        rw [hnext, Int.add_zero] at this
        exact this
      · rw [if_pos hc] at hnext
        refine ty_iinc (pc := 26) (i := 2) (n := 1) (ks := []) (ls' := [_, _, _, _]) (by decide +kernel) rfl rfl ?_
        refine ty_iinc (pc := 29) (i := 3) (n := 1) (ks := []) (ls' := [_, _, _, _]) (by decide +kernel) rfl rfl ?_
        refine ty_goto (pc := 32) (off := (-23)) (t := 9) (ks := []) (by decide +kernel) ?_
        -- at 9: .iload_n 3
        have := ih (j + 1) (by omega)
        rw [hnext] at this
        exact this
  refine ty_enter (ml := 4) (ls := [_, _, _, _]) rfl rfl (Nat.le_of_ble_eq_true rfl) ?_
  refine ty_aload_n (pc := 0) (i := 0) (ks := []) (by decide +kernel) rfl ?_
  refine ty_iconst (pc := 1) (n := 0) (ks := []) (by decide +kernel) ?_
  refine ty_putI (pc := 2) (idx := 135) (ci := 13) (f := 11) (by decide +kernel) (by first | rfl | assumption) rfl rfl (by first | exact hS.1 _ _ rfl | assumption) ?_
  rw [rm_sI]
  refine ty_iconst (pc := 5) (n := 0) (ks := []) (by decide +kernel) ?_
  refine ty_istore_n (pc := 6) (i := 2) (ks := []) (ls' := [_, _, _, _]) (by decide +kernel) rfl ?_
  refine ty_iconst (pc := 7) (n := 0) (ks := []) (by decide +kernel) ?_
  refine ty_istore_n (pc := 8) (i := 3) (ks := []) (ls' := [_, _, _, _]) (by decide +kernel) rfl ?_
  -- at 9: .iload_n 3
  exact loop N 0 (by omega)
end RMC
