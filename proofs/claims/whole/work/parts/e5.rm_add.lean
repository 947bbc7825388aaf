/-! The reference's type, add and drop. -/
section RMD2
variable {L : Nat} {xs : Nat → Int32} {S S0 : ty_S} {I : Nat → Int} {A : Nat → Int → Int} {tau : dk_T} {s : Nat → Nat} {tx : List Int} {pl : Int} {m : Nat} {as : Option mo_M}
theorem rm_typeR (d : Nat) (hS : ty_st S) (hR : rm_R S0 I A tau s tx pl m as) (hU : dk_U S0 tau) (hMI : ∀ M, as = some M → mo_MI (dk_P S0 tau s m) M) (e : Int64) :
    ty_C L xs (d + 2) 104 [.inr (.inr (some (94, 0))), .inr (.inl e)] (rm_s S I A) (ty_oI fun z S' => ∃ I' A', S' = rm_s S I' A' ∧ ((dk_bad (dk_bl e 8) ∧ I' 11 = 1 ∧ rm_R S0 I' A' tau s tx pl m as) ∨ (¬ dk_bad (dk_bl e 8) ∧ 48 < tx.length + (dk_nzl (dk_bl e 8)).length ∧ I' 11 = 2 ∧ rm_R S0 I' A' tau s tx pl m as) ∨ (¬ dk_bad (dk_bl e 8) ∧ tx.length + (dk_nzl (dk_bl e 8)).length ≤ 48 ∧ I' 11 = 0 ∧ z = ((tx.length + (dk_nzl (dk_bl e 8)).length : Nat) : Int) ∧ rm_R S0 I' A' tau s (tx ++ dk_nzl (dk_bl e 8)) pl m as))) := by
  refine (rm_type (L := L) (xs := xs) d hS hR.1 e).mono (fun o S' h => ?_)
  obtain ⟨z, rfl, ⟨h1, rfl⟩ | ⟨h1, h2, rfl⟩ | ⟨h1, h2, h3, g, rfl, h4⟩⟩ := h
  · exact ⟨z, rfl, _, A, rfl, .inl ⟨h1, rfl, rm_R_thr hR⟩⟩
  · exact ⟨z, rfl, _, A, rfl, .inr (.inl ⟨h1, h2, rfl, rm_R_thr hR⟩)⟩
  · refine ⟨z, rfl, _, _, rfl, .inr (.inr ⟨h1, h2, rfl, h3, ?_⟩)⟩
    obtain ⟨r1, r2, r3, r4, r5, r6⟩ := hR
    refine ⟨⟨?_, ?_, fun c hc => ?_, h4⟩, r2, r3, r4, r5, rm_A_o hU hMI r6 ⟨fun k h1 h2 h3 h4 h5 => (if_neg h4).trans (if_neg h5), fun q _ h1 h2 h3 h4 h5 h6 => if_neg h6⟩⟩
    · show z = _
      rw [h3, List.length_append]
    · rw [List.length_append]
      exact h2
    · rcases List.mem_append.mp hc with y | y
      · exact r1.2.2.1 c y
      · have hy : c ∈ dk_bl e 8 ∧ c ≠ 0 := by
          unfold dk_nzl at y
          rw [List.mem_filter] at y
          exact ⟨y.1, by simpa using y.2⟩
        by_cases e1 : 33 ≤ c ∧ c ≤ 126
        · exact e1
        · exact absurd ⟨c, hy.1, hy.2, by omega⟩ h1
theorem ra_copy (d : Nat) (hS : ty_st S) {x1 : Int32} {n : Int} (hn : n ≤ 48) (hsz : I 7 = n) {k0 : Nat} (hk0 : k0 < 12) (hcl : I 8 = k0) {Q : ai_O → ty_S → Prop} (h : ty_W L xs d 108 78 [some (.inr (.inr (some (94, 0)))), some (.inl x1), some (.inl (ty_J n))] [] (rm_s S I (rm_a A 54 (rc_f (A 54) (A 53) (k0 * 48) n))) Q) : ∀ (k : Nat) (j : Int), 0 ≤ j → j + k = n → ty_W L xs d 108 44 [some (.inr (.inr (some (94, 0)))), some (.inl x1), some (.inl (ty_J j))] [] (rm_s S I (rm_a A 54 (rc_f (A 54) (A 53) (k0 * 48) j))) Q := by
  intro k
  induction k with
  | zero =>
    intro j j0 hj
    have e : j = n := by omega
    subst e
    refine ty_iload_n (pc := 44) (i := 2) (ks := []) (by decide +kernel) rfl ?_
    refine ty_aload_n (pc := 45) (i := 0) (ks := []) (by decide +kernel) rfl ?_
    refine ty_getI (pc := 46) (idx := 146) (ci := 13) (f := 7) (by decide +kernel) (by first | rfl | assumption) rfl (by first | exact hS.1 _ _ rfl | assumption) (fun v hv => ?_)
    simp (decide := true) only [rm_I, rm_u, rm_w, ty_sI, ty_sR, ty_sA, ty_sQ, ty_mA, ty_mQ, ↓reduceIte, false_and, and_false, true_and, and_true, and_self] at hv
    subst hv
    -- at 49: .if_icmp .ge 29
    rw [hsz]
    refine ty_icmp_ge (pc := 49) (off := 29) (t := 78) (ks := []) (by decide +kernel) (by omega) (by omega) (fun hc => ?_) (fun hc => ?_)
    · exact h
    · omega
  | succ k ih =>
    intro j j0 hj
    have hcr : 0 ≤ I 8 ∧ I 8 < 12 := by omega
    refine ty_iload_n (pc := 44) (i := 2) (ks := []) (by decide +kernel) rfl ?_
    refine ty_aload_n (pc := 45) (i := 0) (ks := []) (by decide +kernel) rfl ?_
    refine ty_getI (pc := 46) (idx := 146) (ci := 13) (f := 7) (by decide +kernel) (by first | rfl | assumption) rfl (by first | exact hS.1 _ _ rfl | assumption) (fun v hv => ?_)
    simp (decide := true) only [rm_I, rm_u, rm_w, ty_sI, ty_sR, ty_sA, ty_sQ, ty_mA, ty_mQ, ↓reduceIte, false_and, and_false, true_and, and_true, and_self] at hv
    subst hv
    -- at 49: .if_icmp .ge 29
    rw [hsz]
    refine ty_icmp_ge (pc := 49) (off := 29) (t := 78) (ks := []) (by decide +kernel) (by omega) (by omega) (fun hc => ?_) (fun hc => ?_)
    · omega
    clear hc
    refine ty_aload_n (pc := 52) (i := 0) (ks := []) (by decide +kernel) rfl ?_
    refine ty_getS (b := (54, 0)) (pc := 53) (idx := 13) (ci := 13) (f := 1) (by decide +kernel) (by first | rfl | assumption) rfl (by first | exact hS.1 _ _ rfl | assumption) (by first | exact hS.2.2 _ _ _ _ rfl | assumption) ?_
    refine ty_aload_n (pc := 56) (i := 0) (ks := []) (by decide +kernel) rfl ?_
    refine ty_getI (pc := 57) (idx := 171) (ci := 13) (f := 8) (by decide +kernel) (by first | rfl | assumption) rfl (by first | exact hS.1 _ _ rfl | assumption) (fun v hv => ?_)
    simp (decide := true) only [rm_I, rm_u, rm_w, ty_sI, ty_sR, ty_sA, ty_sQ, ty_mA, ty_mQ, ↓reduceIte, false_and, and_false, true_and, and_true, and_self] at hv
    subst hv
    refine ty_bipush (pc := 60) (n := 48) (ks := []) (by decide +kernel) (by omega) ?_
    refine ty_imul (pc := 62) (ks := []) (by decide +kernel) ?_
    refine ty_iload_n (pc := 63) (i := 2) (ks := []) (by decide +kernel) rfl ?_
    refine ty_iadd (pc := 64) (ks := []) (by decide +kernel) ?_
    refine ty_aload_n (pc := 65) (i := 0) (ks := []) (by decide +kernel) rfl ?_
    refine ty_getS (b := (53, 0)) (pc := 66) (idx := 7) (ci := 13) (f := 0) (by decide +kernel) (by first | rfl | assumption) rfl (by first | exact hS.1 _ _ rfl | assumption) (by first | exact hS.2.2 _ _ _ _ rfl | assumption) ?_
    refine ty_iload_n (pc := 69) (i := 2) (ks := []) (by decide +kernel) rfl ?_
    refine ty_iaload (pc := 70) (ks := []) (by decide +kernel) (by first | rfl | assumption) (by rfl) (by first | exact hS.1 _ _ rfl | assumption) (by first | exact hS.2.1 _ _ _ rfl | assumption) (by omega) (fun v hv => ?_)
    rw [rm_A (by decide)] at hv
    first | (simp (decide := true) only [rm_w, ty_sI, ty_sR, ty_sA, ty_sQ, ty_mA, ty_mQ, ↓reduceIte, false_and, and_false, true_and, and_true, and_self] at hv) | skip
    subst hv
    refine ty_iastore (pc := 71) (ks := []) (by decide +kernel) (by first | rfl | assumption) (by rfl) (by first | exact hS.1 _ _ rfl | assumption) (by first | exact hS.2.1 _ _ _ rfl | assumption) (by omega) ?_
    rw [rm_sA (by decide)]
    refine ty_iinc (pc := 72) (i := 2) (n := 1) (ks := []) (ls' := [_, _, _]) (by decide +kernel) rfl rfl ?_
    refine ty_goto (pc := 75) (off := (-31)) (t := 44) (ks := []) (by decide +kernel) ?_
    -- at 44: .iload_n 2
    have e : rm_a A 54 (rc_f (A 54) (A 53) (k0 * 48) j) 53 = A 53 := rfl
    rw [e, hcl, rm_w_a, rc_f_s j0 rfl]
    exact ih (j + 1) (by omega) (by omega)
theorem rm_add (d : Nat) (hS : ty_st S) (hR : rm_R S0 I A tau s tx pl m as) (hU : dk_U S0 tau) (hs : dk_s tau s m) (hinj : ∀ i, i < m → m < 12 → s i ≠ s m) (hMI : ∀ M, as = some M → mo_MI (dk_P S0 tau s m) M) :
    ty_C L xs (d + 6) 108 [.inr (.inr (some (94, 0)))] (rm_s S I A) (ty_oI fun z S' => ∃ I' A', S' = rm_s S I' A' ∧ ((m = 12 ∧ I' 11 = 2 ∧ rm_R S0 I' A' tau s [] pl m as) ∨ (m < 12 ∧ (dk_r 0 tx).1 = false ∧ I' 11 = 1 ∧ rm_R S0 I' A' tau s [] (dk_r 0 tx).2.1 m as) ∨ (m < 12 ∧ (dk_r 0 tx).1 = true ∧ I' 11 = 0 ∧ z = (m : Int) + 1 ∧ rm_R S0 I' A' (dk_tp (dk_tq tau) (s m) tx) s [] pl (m + 1) none))) := by
  obtain ⟨hX, hpl, hrp, hE, hask, hA⟩ := hR
  obtain ⟨z1, z2, z3, z4⟩ := id hX
  have hm := hs.1
  have hcl : I 8 = m := hrp.1.1
  have h0 : ∀ (I' : Nat → Int) (A' : Nat → Int → Int), I' 7 = 0 → rm_X I' A' [] := fun I' A' h => ⟨h, by decide, fun c hc => (nomatch hc), trivial⟩
  refine ty_enter (ml := 3) (ls := [_, _, _]) rfl rfl (Nat.le_of_ble_eq_true rfl) ?_
  refine ty_aload_n (pc := 0) (i := 0) (ks := []) (by decide +kernel) rfl ?_
  refine ty_getI (pc := 1) (idx := 171) (ci := 13) (f := 8) (by decide +kernel) (by first | rfl | assumption) rfl (by first | exact hS.1 _ _ rfl | assumption) (fun v hv => ?_)
  simp (decide := true) only [rm_I, rm_u, rm_w, ty_sI, ty_sR, ty_sA, ty_sQ, ty_mA, ty_mQ, ↓reduceIte, false_and, and_false, true_and, and_true, and_self] at hv
  subst hv
  refine ty_bipush (pc := 4) (n := 12) (ks := []) (by decide +kernel) (by omega) ?_
  -- at 6: .if_icmp .ne 14
  rw [hcl]
  refine ty_icmp_ne (pc := 6) (off := 14) (t := 20) (ks := []) (by decide +kernel) (by omega) (by omega) (fun hc => ?_) (fun hc => ?_)
  rotate_left
  · refine ty_aload_n (pc := 9) (i := 0) (ks := []) (by decide +kernel) rfl ?_
    refine ty_iconst (pc := 10) (n := 0) (ks := []) (by decide +kernel) ?_
    refine ty_putI (pc := 11) (idx := 146) (ci := 13) (f := 7) (by decide +kernel) (by first | rfl | assumption) rfl rfl (by first | exact hS.1 _ _ rfl | assumption) ?_
    rw [rm_sI]
    refine ty_aload_n (pc := 14) (i := 0) (ks := []) (by decide +kernel) rfl ?_
    refine ty_iconst (pc := 15) (n := 2) (ks := []) (by decide +kernel) ?_
    -- at 16: .invokevirtual 149
    refine ty_callv (pc := 16) (idx := 149) (m := 107) (n := 2) (c := 13) (vs := [_]) (r := []) (by decide +kernel) rfl rfl (Nat.le_of_ble_eq_true rfl) (by first | rfl | assumption) (by first | exact hS.1 _ _ rfl | assumption) ((rm_fail (L := L) (xs := xs) 0 hS (c := 2)).deeper (by omega)) ?_
    rintro _ S1 ⟨z, rfl, rfl, rfl⟩
    refine ty_KI ?_
    refine ty_ret_i (pc := 19) (ks := []) (ty := .int) (by decide +kernel) rfl rfl ?_
    exact ⟨0, rfl, _, A, rfl, .inl ⟨by omega, rfl, h0 _ _ rfl, hpl, hrp, hE, hask, rm_A_o hU hMI hA ⟨fun k h1 h2 h3 h4 h5 => (if_neg h5).trans (if_neg h4), fun _ _ _ _ _ _ _ _ => rfl⟩⟩⟩
  have hlt : m < 12 := by omega
  clear hc
  have hRd : ty_C L xs (d + 5) 109 [.inr (.inr (some (94, 0)))] (rm_s S (rm_u I 10 0) A) (rm_gp S I A (pt_c (dk_f tx)).1 (pt_c (dk_f tx)).2.1) := by
    have := rm_readClause (L := L) (xs := xs) d hS hX (g := A 57)
    unfold rm_p at this
    rw [rm_a_self] at this
    exact this
  have er : dk_r 0 tx = pt_c (dk_f tx) := if_neg (by decide)
  refine ty_aload_n (pc := 20) (i := 0) (ks := []) (by decide +kernel) rfl ?_
  refine ty_iconst (pc := 21) (n := 0) (ks := []) (by decide +kernel) ?_
  refine ty_putI (pc := 22) (idx := 153) (ci := 13) (f := 10) (by decide +kernel) (by first | rfl | assumption) rfl rfl (by first | exact hS.1 _ _ rfl | assumption) ?_
  rw [rm_sI]
  refine ty_aload_n (pc := 25) (i := 0) (ks := []) (by decide +kernel) rfl ?_
  -- at 26: .invokevirtual 174
  refine ty_callv (pc := 26) (idx := 174) (m := 109) (n := 1) (c := 13) (vs := []) (r := []) (by decide +kernel) rfl rfl (Nat.le_of_ble_eq_true rfl) (by first | rfl | assumption) (by first | exact hS.1 _ _ rfl | assumption) hRd ?_
  rintro _ S1 ⟨z, rfl, hz, g', rfl⟩
  refine ty_KI ?_
  unfold rm_p
  have aO : ∀ q, q ≠ 57 → rm_a A 57 g' q = A q := fun q hq => if_neg hq
  -- the rows behind the copying
  have copy : ∀ (I1 : Nat → Int) (x1 : Int32) (Q : ai_O → ty_S → Prop), I1 7 = tx.length → I1 8 = m → (∀ A4 : Nat → Int → Int, (∀ p : Int, 0 ≤ p → p < tx.length → A4 54 (m * 48 + p) = dk_f tx p) → (∀ p : Int, p < m * 48 → A4 54 p = A 54 p) → (∀ q, q ≠ 57 → q ≠ 54 → A4 q = A q) → ty_W L xs (d + 5) 108 78 [some (.inr (.inr (some (94, 0)))), some (.inl x1), some (.inl (ty_J tx.length))] [] (rm_s S I1 A4) Q) → ty_W L xs (d + 5) 108 42 [some (.inr (.inr (some (94, 0)))), some (.inl x1), none] [] (rm_s S I1 (rm_a A 57 g')) Q := by
    intro I1 x1 Q hsz hc1 cont
    generalize rm_a A 57 g' = A1 at aO
    refine ty_iconst (pc := 42) (n := 0) (ks := []) (by decide +kernel) ?_
    refine ty_istore_n (pc := 43) (i := 2) (ks := []) (ls' := [_, _, _]) (by decide +kernel) rfl ?_
    -- at 44: .iload_n 2
    have h00 : rm_s S I1 A1 = rm_s S I1 (rm_a A1 54 (rc_f (A1 54) (A1 53) (m * 48) 0)) := by rw [rc_f_0, rm_a_self]
    rw [h00]
    refine ra_copy (d + 5) hS (n := tx.length) (by omega) hsz hlt hc1 ?_ tx.length 0 (Int.le_refl _) (by omega)
    refine cont _ (fun p p0 p1 => ?_) (fun p p1 => ?_) (fun q h1 h2 => (if_neg h2).trans (aO q h1))
    · show rc_f (A1 54) (A1 53) (m * 48) tx.length (m * 48 + p) = _
      unfold rc_f
      rw [if_pos (by omega), show (m : Int) * 48 + p - m * 48 = p by omega, aO _ (by decide)]
      exact rm_X_at hX ⟨p0, p1⟩
    · show rc_f (A1 54) (A1 53) (m * 48) tx.length p = _
      unfold rc_f
      rw [if_neg (by omega), aO _ (by decide)]
  have hrpA : ∀ (I' : Nat → Int) (A' A4 : Nat → Int → Int), I' 8 = m → (∀ p : Int, p < m * 48 → A4 54 p = A 54 p) → (∀ q, q ≠ 57 → q ≠ 54 → A4 q = A q) → A' = rm_w A4 55 m tx.length → ∀ i, i < m → ∀ t, tau (s i) = some t → A' 55 i = t.length ∧ ∀ p : Int, 0 ≤ p → p < t.length → A' 54 (48 * (i : Int) + p) = dk_f t p := by
    intro I' A' A4 hc1 hA1 hA2 hA' i hi t ht
    obtain ⟨r1, r2⟩ := hrp.2 i hi t ht
    have h48 := (hU _ t ht).1.2.1
    subst hA'
    refine ⟨?_, fun p p0 p1 => ?_⟩
    · have e : rm_w A4 55 m tx.length 55 i = A4 55 i := if_neg (fun z => by have := z.2; omega)
      rw [e, hA2 _ (by decide) (by decide)]
      exact r1
    · have e : rm_w A4 55 m tx.length 54 (48 * (i : Int) + p) = A4 54 (48 * (i : Int) + p) := if_neg (fun z => absurd z.1 (by decide))
      rw [e, hA1 _ (by omega)]
      exact r2 p p0 p1
  by_cases hb : (pt_c (dk_f tx)).1 = true
  · rw [if_pos hb] at hz
    subst hz
    have hbr : (dk_r 0 tx).1 = true := by rw [er]; exact hb
    refine ty_istore_n (pc := 29) (i := 1) (ks := []) (ls' := [_, _, _]) (by decide +kernel) rfl ?_
    refine ty_iload_n (pc := 30) (i := 1) (ks := []) (by decide +kernel) rfl ?_
    -- at 31: .ifCond .ne 11
    refine ty_if_ne (pc := 31) (off := 11) (t := 42) (ks := []) (by decide +kernel) (by omega) (fun hc => ?_) (fun hc => ?_)
    rotate_left
    · exact absurd hc (by decide)
    clear hc
    refine copy _ _ _ z1 hcl (fun A4 c1 c2 c3 => ?_)
    clear copy
    refine ty_aload_n (pc := 78) (i := 0) (ks := []) (by decide +kernel) rfl ?_
    refine ty_getS (b := (55, 0)) (pc := 79) (idx := 16) (ci := 13) (f := 2) (by decide +kernel) (by first | rfl | assumption) rfl (by first | exact hS.1 _ _ rfl | assumption) (by first | exact hS.2.2 _ _ _ _ rfl | assumption) ?_
    refine ty_aload_n (pc := 82) (i := 0) (ks := []) (by decide +kernel) rfl ?_
    refine ty_getI (pc := 83) (idx := 171) (ci := 13) (f := 8) (by decide +kernel) (by first | rfl | assumption) rfl (by first | exact hS.1 _ _ rfl | assumption) (fun v hv => ?_)
    simp (decide := true) only [rm_I, rm_u, rm_w, ty_sI, ty_sR, ty_sA, ty_sQ, ty_mA, ty_mQ, ↓reduceIte, false_and, and_false, true_and, and_true, and_self] at hv
    subst hv
    refine ty_aload_n (pc := 86) (i := 0) (ks := []) (by decide +kernel) rfl ?_
    refine ty_getI (pc := 87) (idx := 146) (ci := 13) (f := 7) (by decide +kernel) (by first | rfl | assumption) rfl (by first | exact hS.1 _ _ rfl | assumption) (fun v hv => ?_)
    simp (decide := true) only [rm_I, rm_u, rm_w, ty_sI, ty_sR, ty_sA, ty_sQ, ty_mA, ty_mQ, ↓reduceIte, false_and, and_false, true_and, and_true, and_self] at hv
    subst hv
    refine ty_iastore (pc := 90) (ks := []) (by decide +kernel) (by first | rfl | assumption) (by rfl) (by first | exact hS.1 _ _ rfl | assumption) (by first | exact hS.2.1 _ _ _ rfl | assumption) (by omega) ?_
    rw [rm_sA (by decide)]
    refine ty_aload_n (pc := 91) (i := 0) (ks := []) (by decide +kernel) rfl ?_
    refine ty_iconst (pc := 92) (n := 0) (ks := []) (by decide +kernel) ?_
    refine ty_putI (pc := 93) (idx := 146) (ci := 13) (f := 7) (by decide +kernel) (by first | rfl | assumption) rfl rfl (by first | exact hS.1 _ _ rfl | assumption) ?_
    rw [rm_sI]
    refine ty_aload_n (pc := 96) (i := 0) (ks := []) (by decide +kernel) rfl ?_
    refine ty_iload_n (pc := 97) (i := 1) (ks := []) (by decide +kernel) rfl ?_
    -- at 98: .invokevirtual 142
    rw [hcl, z1]
    refine ty_callv (pc := 98) (idx := 142) (m := 106) (n := 2) (c := 13) (vs := [_]) (r := []) (by decide +kernel) rfl rfl (Nat.le_of_ble_eq_true rfl) (by first | rfl | assumption) (by first | exact hS.1 _ _ rfl | assumption) ((rm_bad (L := L) (xs := xs) 0 hS (f := 1) (.inr rfl)).deeper (by omega)) ?_
    rintro _ S1 ⟨z, rfl, hz, rfl⟩
    have hz : z = 0 := by omega
    subst hz
    refine ty_KI ?_
    refine ty_if_eq (pc := 101) (off := 5) (t := 106) (ks := []) (by decide +kernel) (by omega) (fun hc => ?_) (fun hc => ?_)
    rotate_left
    · exact absurd rfl hc
    clear hc
    refine ty_aload_n (pc := 106) (i := 0) (ks := []) (by decide +kernel) rfl ?_
    refine ty_iconst (pc := 107) (n := 0) (ks := []) (by decide +kernel) ?_
    refine ty_putZ (pc := 108) (idx := 177) (ci := 13) (f := 38) (by decide +kernel) (by first | rfl | assumption) rfl rfl (by first | exact hS.1 _ _ rfl | assumption) (by omega) ?_
    rw [rm_sI]
    refine ty_aload_n (pc := 111) (i := 0) (ks := []) (by decide +kernel) rfl ?_
    refine ty_dup (pc := 112) (ks := []) (by decide +kernel) rfl ?_
    refine ty_getI (pc := 113) (idx := 171) (ci := 13) (f := 8) (by decide +kernel) (by first | rfl | assumption) rfl (by first | exact hS.1 _ _ rfl | assumption) (fun v hv => ?_)
    simp (decide := true) only [rm_I, rm_u, rm_w, ty_sI, ty_sR, ty_sA, ty_sQ, ty_mA, ty_mQ, ↓reduceIte, false_and, and_false, true_and, and_true, and_self] at hv
    subst hv
    refine ty_iconst (pc := 116) (n := 1) (ks := []) (by decide +kernel) ?_
    refine ty_iadd (pc := 117) (ks := []) (by decide +kernel) ?_
    refine ty_putI (pc := 118) (idx := 171) (ci := 13) (f := 8) (by decide +kernel) (by first | rfl | assumption) rfl rfl (by first | exact hS.1 _ _ rfl | assumption) ?_
    rw [rm_sI]
    refine ty_aload_n (pc := 121) (i := 0) (ks := []) (by decide +kernel) rfl ?_
    refine ty_getI (pc := 122) (idx := 171) (ci := 13) (f := 8) (by decide +kernel) (by first | rfl | assumption) rfl (by first | exact hS.1 _ _ rfl | assumption) (fun v hv => ?_)
    simp (decide := true) only [rm_I, rm_u, rm_w, ty_sI, ty_sR, ty_sA, ty_sQ, ty_mA, ty_mQ, ↓reduceIte, false_and, and_false, true_and, and_true, and_self] at hv
    subst hv
    -- at 125: .ireturn
    rw [hcl]
    refine ty_ret_i (pc := 125) (ks := []) (ty := .int) (by decide +kernel) rfl rfl ?_
    refine ⟨_, rfl, _, _, rfl, .inr (.inr ⟨hlt, hbr, rfl, rfl, h0 _ _ rfl, hpl, ?_, hE, rfl, trivial⟩)⟩
    refine ⟨⟨show (m : Int) + 1 = ((m + 1 : Nat) : Int) by omega, by omega⟩, fun i hi t ht => ?_⟩
    by_cases ei : i = m
    · subst ei
      have ett : t = tx := by
        have : dk_tp (dk_tq tau) (s i) tx (s i) = some tx := if_pos rfl
        rw [this] at ht
        exact (Option.some.inj ht).symm
      subst ett
      refine ⟨?_, fun p p0 p1 => ?_⟩
      · show (if _ ∧ _ then _ else _) = _
        rw [if_pos ⟨rfl, rfl⟩]
      · have e : ∀ f : Int, rm_w A4 55 f t.length 54 (48 * (i : Int) + p) = A4 54 (48 * (i : Int) + p) := fun f => if_neg (fun z => absurd z.1 (by decide))
        rw [e, show 48 * (i : Int) + p = i * 48 + p by omega]
        exact c1 p p0 p1
    · have hi' : i < m := by omega
      have ht' : tau (s i) = some t := by
        have e1 : dk_tp (dk_tq tau) (s m) tx (s i) = dk_tq tau (s i) := if_neg (hinj i hi' hlt)
        have e2 : dk_tq tau (s i) = tau (s i) := if_neg (by have := (hs.2 i hi').1; omega)
        rw [← e2, ← e1]
        exact ht
      exact hrpA I _ A4 hcl c2 c3 rfl i hi' t ht'
  · rw [if_neg hb] at hz
    subst hz
    have hbf : (pt_c (dk_f tx)).1 = false := by simpa using hb
    have hbr : (dk_r 0 tx).1 = false := by rw [er]; exact hbf
    refine ty_istore_n (pc := 29) (i := 1) (ks := []) (ls' := [_, _, _]) (by decide +kernel) rfl ?_
    refine ty_iload_n (pc := 30) (i := 1) (ks := []) (by decide +kernel) rfl ?_
    -- at 31: .ifCond .ne 11
    refine ty_if_ne (pc := 31) (off := 11) (t := 42) (ks := []) (by decide +kernel) (by omega) (fun hc => ?_) (fun hc => ?_)
    · exact absurd rfl hc
    clear hc
    refine ty_aload_n (pc := 34) (i := 0) (ks := []) (by decide +kernel) rfl ?_
    refine ty_aload_n (pc := 35) (i := 0) (ks := []) (by decide +kernel) rfl ?_
    refine ty_getI (pc := 36) (idx := 153) (ci := 13) (f := 10) (by decide +kernel) (by first | rfl | assumption) rfl (by first | exact hS.1 _ _ rfl | assumption) (fun v hv => ?_)
    simp (decide := true) only [rm_I, rm_u, rm_w, ty_sI, ty_sR, ty_sA, ty_sQ, ty_mA, ty_mQ, ↓reduceIte, false_and, and_false, true_and, and_true, and_self] at hv
    subst hv
    refine ty_putI (pc := 39) (idx := 31) (ci := 13) (f := 9) (by decide +kernel) (by first | rfl | assumption) rfl rfl (by first | exact hS.1 _ _ rfl | assumption) ?_
    rw [rm_sI]
    -- at 42: .iconst 0
    refine copy _ _ _ z1 hcl (fun A4 c1 c2 c3 => ?_)
    clear copy
    refine ty_aload_n (pc := 78) (i := 0) (ks := []) (by decide +kernel) rfl ?_
    refine ty_getS (b := (55, 0)) (pc := 79) (idx := 16) (ci := 13) (f := 2) (by decide +kernel) (by first | rfl | assumption) rfl (by first | exact hS.1 _ _ rfl | assumption) (by first | exact hS.2.2 _ _ _ _ rfl | assumption) ?_
    refine ty_aload_n (pc := 82) (i := 0) (ks := []) (by decide +kernel) rfl ?_
    refine ty_getI (pc := 83) (idx := 171) (ci := 13) (f := 8) (by decide +kernel) (by first | rfl | assumption) rfl (by first | exact hS.1 _ _ rfl | assumption) (fun v hv => ?_)
    simp (decide := true) only [rm_I, rm_u, rm_w, ty_sI, ty_sR, ty_sA, ty_sQ, ty_mA, ty_mQ, ↓reduceIte, false_and, and_false, true_and, and_true, and_self] at hv
    subst hv
    refine ty_aload_n (pc := 86) (i := 0) (ks := []) (by decide +kernel) rfl ?_
    refine ty_getI (pc := 87) (idx := 146) (ci := 13) (f := 7) (by decide +kernel) (by first | rfl | assumption) rfl (by first | exact hS.1 _ _ rfl | assumption) (fun v hv => ?_)
    simp (decide := true) only [rm_I, rm_u, rm_w, ty_sI, ty_sR, ty_sA, ty_sQ, ty_mA, ty_mQ, ↓reduceIte, false_and, and_false, true_and, and_true, and_self] at hv
    subst hv
    refine ty_iastore (pc := 90) (ks := []) (by decide +kernel) (by first | rfl | assumption) (by rfl) (by first | exact hS.1 _ _ rfl | assumption) (by first | exact hS.2.1 _ _ _ rfl | assumption) (by omega) ?_
    rw [rm_sA (by decide)]
    refine ty_aload_n (pc := 91) (i := 0) (ks := []) (by decide +kernel) rfl ?_
    refine ty_iconst (pc := 92) (n := 0) (ks := []) (by decide +kernel) ?_
    refine ty_putI (pc := 93) (idx := 146) (ci := 13) (f := 7) (by decide +kernel) (by first | rfl | assumption) rfl rfl (by first | exact hS.1 _ _ rfl | assumption) ?_
    rw [rm_sI]
    refine ty_aload_n (pc := 96) (i := 0) (ks := []) (by decide +kernel) rfl ?_
    refine ty_iload_n (pc := 97) (i := 1) (ks := []) (by decide +kernel) rfl ?_
    -- at 98: .invokevirtual 142
    rw [hcl, z1]
    refine ty_callv (pc := 98) (idx := 142) (m := 106) (n := 2) (c := 13) (vs := [_]) (r := []) (by decide +kernel) rfl rfl (Nat.le_of_ble_eq_true rfl) (by first | rfl | assumption) (by first | exact hS.1 _ _ rfl | assumption) ((rm_bad (L := L) (xs := xs) 0 hS (f := 0) (.inl rfl)).deeper (by omega)) ?_
    rintro _ S1 ⟨z, rfl, hz, rfl⟩
    have hz : z = 1 := by omega
    subst hz
    refine ty_KI ?_
    refine ty_if_eq (pc := 101) (off := 5) (t := 106) (ks := []) (by decide +kernel) (by omega) (fun hc => ?_) (fun hc => ?_)
    · exact absurd hc (by decide)
    clear hc
    refine ty_iconst (pc := 104) (n := 0) (ks := []) (by decide +kernel) ?_
    -- at 105: .ireturn
    refine ty_ret_i (pc := 105) (ks := []) (ty := .int) (by decide +kernel) rfl rfl ?_
    refine ⟨0, rfl, _, _, rfl, .inr (.inl ⟨hlt, hbr, rfl, h0 _ _ rfl, by rw [er]; rfl, ⟨hrp.1, hrpA I _ A4 hcl c2 c3 rfl⟩, hE, hask, ?_⟩)⟩
    refine rm_A_o hU hMI hA ⟨fun k h1 h2 h3 h4 h5 => ?_, fun q _ h1 h2 h3 h4 h5 h6 => ?_⟩
    · simp only [rm_u]
      rw [if_neg h5, if_neg h4, if_neg h3, if_neg h2]
    · rw [← c3 q h5 h3]
      funext j
      exact if_neg (fun z => h4 z.1)
/-- n places from b on are taken from d places behind -/
def rd_f (f : Int → Int) (b n d : Int) : Int → Int := fun q => if b ≤ q ∧ q < b + n then f (q + d) else f q
theorem rd_f_0 {f : Int → Int} {b d : Int} : rd_f f b 0 d = f := by
  funext q
  exact if_neg (by omega)
theorem rd_f_s {f : Int → Int} {b n d : Int} (hn : 0 ≤ n) (hd : 0 < d) {i j : Int} (hi : i = b + n) (hj : j = b + n + d) : mo_up (rd_f f b n d) i (rd_f f b n d j) = rd_f f b (n + 1) d := by
  subst hi hj
  have e : rd_f f b n d (b + n + d) = f (b + n + d) := if_neg (by omega)
  rw [e]
  funext q
  unfold mo_up rd_f
  by_cases e : q = b + n
  · rw [if_pos e, if_pos (by omega), e]
  · rw [if_neg e]
    by_cases e2 : b ≤ q ∧ q < b + n
    · rw [if_pos e2, if_pos (by omega)]
    · rw [if_neg e2, if_neg (by omega)]
theorem rm_drop (d : Nat) (hS : ty_st S) (hR : rm_R S0 I A tau s tx pl m as) (hU : dk_U S0 tau) (hs : dk_s tau s m) (hinj : ∀ i j, i < m → j < m → s i = s j → i = j) {i : Int} (hi : -2147483648 ≤ i ∧ i ≤ 2147483647) :
    ty_C L xs (d + 2) 114 [.inr (.inr (some (94, 0))), .inl (ty_J i)] (rm_s S I A) (ty_oV fun S' => ∃ I' A', S' = rm_s S I' A' ∧ (((i < 0 ∨ (m : Int) ≤ i) ∧ I' 11 = 1 ∧ rm_R S0 I' A' tau s tx pl m as) ∨ (0 ≤ i ∧ i < (m : Int) ∧ I' 11 = 0 ∧ rm_R S0 I' A' (dk_to (dk_tq tau) (s i.toNat)) (dk_rot s i.toNat m) tx pl (m - 1) none))) := by
  have hR0 := hR
  obtain ⟨hX, hpl, hrp, hE, hask, hA⟩ := hR
  have hm := hs.1
  have hcl : I 8 = m := hrp.1.1
  have hclr : 0 ≤ I 8 ∧ I 8 ≤ 12 := by omega
  refine ty_enter (ml := 4) (ls := [_, _, _, _]) rfl rfl (Nat.le_of_ble_eq_true rfl) ?_
  refine ty_aload_n (pc := 0) (i := 0) (ks := []) (by decide +kernel) rfl ?_
  refine ty_iload_n (pc := 1) (i := 1) (ks := []) (by decide +kernel) rfl ?_
  refine ty_iconst (pc := 2) (n := 0) (ks := []) (by decide +kernel) ?_
  refine ty_aload_n (pc := 3) (i := 0) (ks := []) (by decide +kernel) rfl ?_
  refine ty_getI (pc := 4) (idx := 171) (ci := 13) (f := 8) (by decide +kernel) (by first | rfl | assumption) rfl (by first | exact hS.1 _ _ rfl | assumption) (fun v hv => ?_)
  simp (decide := true) only [rm_I, rm_u, rm_w, ty_sI, ty_sR, ty_sA, ty_sQ, ty_mA, ty_mQ, ↓reduceIte, false_and, and_false, true_and, and_true, and_self] at hv
  subst hv
  refine ty_iconst (pc := 7) (n := 1) (ks := []) (by decide +kernel) ?_
  refine ty_isub (pc := 8) (ks := []) (by decide +kernel) ?_
  -- at 9: .invokestatic 138
  refine ty_calls (pc := 9) (idx := 138) (m := 105) (n := 3) (c := 0) (av := [_, _, _]) (r := [_]) (by decide +kernel) rfl rfl (Nat.le_of_ble_eq_true rfl) ((rm_in (L := L) (xs := xs) 0 (v := i) (a := 0) (b := I 8 - 1) hi (by decide) (by omega)).deeper (by omega)) ?_
  rintro _ S1 ⟨f, rfl, hf, rfl⟩
  refine ty_KI ?_
  have hf01 : f = 0 ∨ f = 1 := by rw [hf]; split <;> omega
  refine ty_callv (pc := 12) (idx := 142) (m := 106) (n := 2) (c := 13) (vs := [_]) (r := []) (by decide +kernel) rfl rfl (Nat.le_of_ble_eq_true rfl) (by first | rfl | assumption) (by first | exact hS.1 _ _ rfl | assumption) ((rm_bad (L := L) (xs := xs) 0 hS hf01).deeper (by omega)) ?_
  rintro _ S1 ⟨z, rfl, hz, rfl⟩
  refine ty_KI ?_
  by_cases hir : 0 ≤ i ∧ i ≤ I 8 - 1
  rotate_left
  · rw [if_neg hir] at hf
    subst hf
    refine ty_if_eq (pc := 15) (off := 4) (t := 19) (ks := []) (by decide +kernel) (by omega) (fun hc => ?_) (fun hc => ?_)
    · omega
    clear hc
    refine ty_ret_v (pc := 18) (ks := []) (by decide +kernel) rfl ?_
    exact ⟨rfl, _, A, rfl, .inl ⟨by omega, rfl, rm_R_thr hR0⟩⟩
  rw [if_pos hir] at hf
  subst hf
  rw [show (1 : Int) - 1 = 0 by omega]
  refine ty_if_eq (pc := 15) (off := 4) (t := 19) (ks := []) (by decide +kernel) (by omega) (fun hc => ?_) (fun hc => ?_)
  rotate_left
  · omega
  clear hc
  obtain ⟨n, hn⟩ : ∃ n : Nat, (m : Int) = n + 1 := ⟨m - 1, by omega⟩
  have hmn : m = n + 1 := by omega
  refine ty_aload_n (pc := 19) (i := 0) (ks := []) (by decide +kernel) rfl ?_
  refine ty_iconst (pc := 20) (n := 0) (ks := []) (by decide +kernel) ?_
  refine ty_putZ (pc := 21) (idx := 177) (ci := 13) (f := 38) (by decide +kernel) (by first | rfl | assumption) rfl rfl (by first | exact hS.1 _ _ rfl | assumption) (by omega) ?_
  rw [rm_sI]
  refine ty_aload_n (pc := 24) (i := 0) (ks := []) (by decide +kernel) rfl ?_
  refine ty_dup (pc := 25) (ks := []) (by decide +kernel) rfl ?_
  refine ty_getI (pc := 26) (idx := 171) (ci := 13) (f := 8) (by decide +kernel) (by first | rfl | assumption) rfl (by first | exact hS.1 _ _ rfl | assumption) (fun v hv => ?_)
  simp (decide := true) only [rm_I, rm_u, rm_w, ty_sI, ty_sR, ty_sA, ty_sQ, ty_mA, ty_mQ, ↓reduceIte, false_and, and_false, true_and, and_true, and_self] at hv
  subst hv
  refine ty_iconst (pc := 29) (n := 1) (ks := []) (by decide +kernel) ?_
  refine ty_isub (pc := 30) (ks := []) (by decide +kernel) ?_
  refine ty_putI (pc := 31) (idx := 171) (ci := 13) (f := 8) (by decide +kernel) (by first | rfl | assumption) rfl rfl (by first | exact hS.1 _ _ rfl | assumption) ?_
  rw [rm_sI]
  refine ty_iload_n (pc := 34) (i := 1) (ks := []) (by decide +kernel) rfl ?_
  refine ty_istore_n (pc := 35) (i := 2) (ks := []) (ls' := [_, _, _, _]) (by decide +kernel) rfl ?_
  -- at 36: .iload_n 2
  rw [hcl, show (m : Int) - 1 = n by omega]
  generalize hI3 : rm_u (rm_u (rm_u I 11 0) 38 0) 8 n = I3
  have i3 : ∀ k, k ≠ 11 → k ≠ 38 → k ≠ 8 → I3 k = I k := fun k h1 h2 h3 => by
    rw [← hI3]
    exact (if_neg h3).trans ((if_neg h2).trans (if_neg h1))
  have j1 : I3 8 = n := by rw [← hI3]; rfl
  have j2 : I3 11 = 0 := by rw [← hI3]; rfl
  have j3 : I3 38 = 0 := by rw [← hI3]; rfl
  clear hI3
  -- the rows, k rows and j places moved
  have aw : ∀ (cs cl : Int → Int), rm_a (rm_a A 55 cs) 54 cl 54 = cl := fun _ _ => rfl
  have aw2 : ∀ (cs cl : Int → Int), rm_a (rm_a A 55 cs) 54 cl 55 = cs := fun _ _ => rfl
  have aw3 : ∀ (cs cl : Int → Int) (a b : Int), rm_w (rm_a (rm_a A 55 cs) 54 cl) 55 a b = rm_a (rm_a A 55 (mo_up cs a b)) 54 cl := fun cs cl a b => by
    rw [rm_w_ne (by decide), rm_w_a]
  have inner : ∀ (r : Nat) (k j : Int) (cs : Int → Int) (Q : ai_O → ty_S → Prop), i ≤ k → k < n → 0 ≤ j → j + r = 48 → (∀ x3 : Int32, ty_W L xs (d + 1) 114 97 [some (.inr (.inr (some (94, 0)))), some (.inl (ty_J i)), some (.inl (ty_J k)), some (.inl x3)] [] (rm_s S I3 (rm_a (rm_a A 55 cs) 54 (rd_f (A 54) (i * 48) ((k + 1 - i) * 48) 48))) Q) → ty_W L xs (d + 1) 114 60 [some (.inr (.inr (some (94, 0)))), some (.inl (ty_J i)), some (.inl (ty_J k)), some (.inl (ty_J j))] [] (rm_s S I3 (rm_a (rm_a A 55 cs) 54 (rd_f (A 54) (i * 48) ((k - i) * 48 + j) 48))) Q := by
    intro r
    induction r with
    | zero =>
      intro k j cs Q h1 h2 h3 h4 cont
      have e : j = 48 := by omega
      subst e
      refine ty_iload_n (pc := 60) (i := 3) (ks := []) (by decide +kernel) rfl ?_
      refine ty_bipush (pc := 61) (n := 48) (ks := []) (by decide +kernel) (by omega) ?_
      -- at 63: .if_icmp .ge 34
      refine ty_icmp_ge (pc := 63) (off := 34) (t := 97) (ks := []) (by decide +kernel) (by omega) (by omega) (fun hc => ?_) (fun hc => ?_)
      · have := cont (ty_J 48)
        rw [show (k + 1 - i) * 48 = (k - i) * 48 + 48 by omega] at this
        exact this
      · omega
    | succ r ih =>
      intro k j cs Q h1 h2 h3 h4 cont
      refine ty_iload_n (pc := 60) (i := 3) (ks := []) (by decide +kernel) rfl ?_
      refine ty_bipush (pc := 61) (n := 48) (ks := []) (by decide +kernel) (by omega) ?_
      -- at 63: .if_icmp .ge 34
      refine ty_icmp_ge (pc := 63) (off := 34) (t := 97) (ks := []) (by decide +kernel) (by omega) (by omega) (fun hc => ?_) (fun hc => ?_)
      · omega
      clear hc
      refine ty_aload_n (pc := 66) (i := 0) (ks := []) (by decide +kernel) rfl ?_
      refine ty_getS (b := (54, 0)) (pc := 67) (idx := 13) (ci := 13) (f := 1) (by decide +kernel) (by first | rfl | assumption) rfl (by first | exact hS.1 _ _ rfl | assumption) (by first | exact hS.2.2 _ _ _ _ rfl | assumption) ?_
      refine ty_iload_n (pc := 70) (i := 2) (ks := []) (by decide +kernel) rfl ?_
      refine ty_bipush (pc := 71) (n := 48) (ks := []) (by decide +kernel) (by omega) ?_
      refine ty_imul (pc := 73) (ks := []) (by decide +kernel) ?_
      refine ty_iload_n (pc := 74) (i := 3) (ks := []) (by decide +kernel) rfl ?_
      refine ty_iadd (pc := 75) (ks := []) (by decide +kernel) ?_
      refine ty_aload_n (pc := 76) (i := 0) (ks := []) (by decide +kernel) rfl ?_
      refine ty_getS (b := (54, 0)) (pc := 77) (idx := 13) (ci := 13) (f := 1) (by decide +kernel) (by first | rfl | assumption) rfl (by first | exact hS.1 _ _ rfl | assumption) (by first | exact hS.2.2 _ _ _ _ rfl | assumption) ?_
      refine ty_iload_n (pc := 80) (i := 2) (ks := []) (by decide +kernel) rfl ?_
      refine ty_bipush (pc := 81) (n := 48) (ks := []) (by decide +kernel) (by omega) ?_
      refine ty_imul (pc := 83) (ks := []) (by decide +kernel) ?_
      refine ty_bipush (pc := 84) (n := 48) (ks := []) (by decide +kernel) (by omega) ?_
      refine ty_iadd (pc := 86) (ks := []) (by decide +kernel) ?_
      refine ty_iload_n (pc := 87) (i := 3) (ks := []) (by decide +kernel) rfl ?_
      refine ty_iadd (pc := 88) (ks := []) (by decide +kernel) ?_
      refine ty_iaload (pc := 89) (ks := []) (by decide +kernel) (by first | rfl | assumption) (by rfl) (by first | exact hS.1 _ _ rfl | assumption) (by first | exact hS.2.1 _ _ _ rfl | assumption) (by omega) (fun v hv => ?_)
      rw [rm_A (by decide)] at hv
      first | (simp (decide := true) only [rm_w, ty_sI, ty_sR, ty_sA, ty_sQ, ty_mA, ty_mQ, ↓reduceIte, false_and, and_false, true_and, and_true, and_self] at hv) | skip
      subst hv
      refine ty_iastore (pc := 90) (ks := []) (by decide +kernel) (by first | rfl | assumption) (by rfl) (by first | exact hS.1 _ _ rfl | assumption) (by first | exact hS.2.1 _ _ _ rfl | assumption) (by omega) ?_
      rw [rm_sA (by decide)]
      refine ty_iinc (pc := 91) (i := 3) (n := 1) (ks := []) (ls' := [_, _, _, _]) (by decide +kernel) rfl rfl ?_
      refine ty_goto (pc := 94) (off := (-34)) (t := 60) (ks := []) (by decide +kernel) ?_
      -- at 60: .iload_n 3
      rw [aw, rm_w_a, rd_f_s (by omega) (by decide) (show k * 48 + j = i * 48 + ((k - i) * 48 + j) by omega) (show k * 48 + 48 + j = i * 48 + ((k - i) * 48 + j) + 48 by omega), show (k - i) * 48 + j + 1 = (k - i) * 48 + (j + 1) by omega]
      exact ih k (j + 1) cs Q h1 h2 (by omega) (by omega) cont
  have outer : ∀ (r : Nat) (k : Int) (x3 : Option Int32) (Q : ai_O → ty_S → Prop), i ≤ k → k + r = n → (∀ x3 : Option Int32, ty_W L xs (d + 1) 114 103 [some (.inr (.inr (some (94, 0)))), some (.inl (ty_J i)), some (.inl (ty_J n)), x3.map .inl] [] (rm_s S I3 (rm_a (rm_a A 55 (rd_f (A 55) i (n - i) 1)) 54 (rd_f (A 54) (i * 48) ((n - i) * 48) 48))) Q) → ty_W L xs (d + 1) 114 36 [some (.inr (.inr (some (94, 0)))), some (.inl (ty_J i)), some (.inl (ty_J k)), x3.map .inl] [] (rm_s S I3 (rm_a (rm_a A 55 (rd_f (A 55) i (k - i) 1)) 54 (rd_f (A 54) (i * 48) ((k - i) * 48) 48))) Q := by
    intro r
    induction r with
    | zero =>
      intro k x3 Q h1 h2 cont
      have e : k = n := by omega
      subst e
      refine ty_iload_n (pc := 36) (i := 2) (ks := []) (by decide +kernel) rfl ?_
      refine ty_aload_n (pc := 37) (i := 0) (ks := []) (by decide +kernel) rfl ?_
      refine ty_getI (pc := 38) (idx := 171) (ci := 13) (f := 8) (by decide +kernel) (by first | rfl | assumption) rfl (by first | exact hS.1 _ _ rfl | assumption) (fun v hv => ?_)
      simp (decide := true) only [rm_I, rm_u, rm_w, ty_sI, ty_sR, ty_sA, ty_sQ, ty_mA, ty_mQ, ↓reduceIte, false_and, and_false, true_and, and_true, and_self] at hv
      subst hv
      -- at 41: .if_icmp .ge 62
      rw [j1]
      refine ty_icmp_ge (pc := 41) (off := 62) (t := 103) (ks := []) (by decide +kernel) (by omega) (by omega) (fun hc => ?_) (fun hc => ?_)
      · exact cont x3
      · omega
    | succ r ih =>
      intro k x3 Q h1 h2 cont
      refine ty_iload_n (pc := 36) (i := 2) (ks := []) (by decide +kernel) rfl ?_
      refine ty_aload_n (pc := 37) (i := 0) (ks := []) (by decide +kernel) rfl ?_
      refine ty_getI (pc := 38) (idx := 171) (ci := 13) (f := 8) (by decide +kernel) (by first | rfl | assumption) rfl (by first | exact hS.1 _ _ rfl | assumption) (fun v hv => ?_)
      simp (decide := true) only [rm_I, rm_u, rm_w, ty_sI, ty_sR, ty_sA, ty_sQ, ty_mA, ty_mQ, ↓reduceIte, false_and, and_false, true_and, and_true, and_self] at hv
      subst hv
      -- at 41: .if_icmp .ge 62
      rw [j1]
      refine ty_icmp_ge (pc := 41) (off := 62) (t := 103) (ks := []) (by decide +kernel) (by omega) (by omega) (fun hc => ?_) (fun hc => ?_)
      · omega
      clear hc
      refine ty_aload_n (pc := 44) (i := 0) (ks := []) (by decide +kernel) rfl ?_
      refine ty_getS (b := (55, 0)) (pc := 45) (idx := 16) (ci := 13) (f := 2) (by decide +kernel) (by first | rfl | assumption) rfl (by first | exact hS.1 _ _ rfl | assumption) (by first | exact hS.2.2 _ _ _ _ rfl | assumption) ?_
      refine ty_iload_n (pc := 48) (i := 2) (ks := []) (by decide +kernel) rfl ?_
      refine ty_aload_n (pc := 49) (i := 0) (ks := []) (by decide +kernel) rfl ?_
      refine ty_getS (b := (55, 0)) (pc := 50) (idx := 16) (ci := 13) (f := 2) (by decide +kernel) (by first | rfl | assumption) rfl (by first | exact hS.1 _ _ rfl | assumption) (by first | exact hS.2.2 _ _ _ _ rfl | assumption) ?_
      refine ty_iload_n (pc := 53) (i := 2) (ks := []) (by decide +kernel) rfl ?_
      refine ty_iconst (pc := 54) (n := 1) (ks := []) (by decide +kernel) ?_
      refine ty_iadd (pc := 55) (ks := []) (by decide +kernel) ?_
      refine ty_iaload (pc := 56) (ks := []) (by decide +kernel) (by first | rfl | assumption) (by rfl) (by first | exact hS.1 _ _ rfl | assumption) (by first | exact hS.2.1 _ _ _ rfl | assumption) (by omega) (fun v hv => ?_)
      rw [rm_A (by decide)] at hv
      first | (simp (decide := true) only [rm_w, ty_sI, ty_sR, ty_sA, ty_sQ, ty_mA, ty_mQ, ↓reduceIte, false_and, and_false, true_and, and_true, and_self] at hv) | skip
      subst hv
      refine ty_iastore (pc := 57) (ks := []) (by decide +kernel) (by first | rfl | assumption) (by rfl) (by first | exact hS.1 _ _ rfl | assumption) (by first | exact hS.2.1 _ _ _ rfl | assumption) (by omega) ?_
      rw [rm_sA (by decide)]
      refine ty_iconst (pc := 58) (n := 0) (ks := []) (by decide +kernel) ?_
      refine ty_istore_n (pc := 59) (i := 3) (ks := []) (ls' := [_, _, _, _]) (by decide +kernel) rfl ?_
      -- at 60: .iload_n 3
      rw [aw2, aw3, rd_f_s (by omega) (by decide) (show k = i + (k - i) by omega) (show k + 1 = i + (k - i) + 1 by omega), show k - i + 1 = k + 1 - i by omega]
      have := inner 48 k 0 (rd_f (A 55) i (k + 1 - i) 1) Q h1 (by omega) (Int.le_refl _) (by omega) (fun x3' => by
        refine ty_iinc (pc := 97) (i := 2) (n := 1) (ks := []) (ls' := [_, _, _, _]) (by decide +kernel) rfl rfl ?_
        refine ty_goto (pc := 100) (off := (-64)) (t := 36) (ks := []) (by decide +kernel) ?_
        -- at 36: .iload_n 2
        exact ih (k + 1) (some x3') Q (by omega) (by omega) cont)
      rw [show (k - i) * 48 + 0 = (k - i) * 48 by omega] at this
      exact this
  have hst : rm_s S I3 A = rm_s S I3 (rm_a (rm_a A 55 (rd_f (A 55) i (i - i) 1)) 54 (rd_f (A 54) (i * 48) ((i - i) * 48) 48)) := by
    rw [Int.sub_self, Int.zero_mul, rd_f_0, rd_f_0, rm_a_self, rm_a_self]
  rw [hst]
  refine outer (n - i.toNat) i none _ (Int.le_refl _) (by omega) (fun x3 => ?_)
  refine ty_ret_v (pc := 103) (ks := []) (by decide +kernel) rfl ?_
  refine ⟨rfl, I3, _, rfl, .inr ⟨hir.1, by omega, j2, ⟨(i3 _ (by decide) (by decide) (by decide)).trans hX.1, hX.2.1, hX.2.2.1, hX.2.2.2⟩, (i3 _ (by decide) (by decide) (by decide)).trans hpl, ⟨⟨?_, by omega⟩, fun k hk t ht => ?_⟩, ?_, j3, trivial⟩⟩
  · rw [j1]
    omega
  · -- row k of the new list
    have key : ∀ x : Nat, x < m → x ≠ i.toNat → dk_to (dk_tq tau) (s i.toNat) (s x) = some t → tau (s x) = some t := fun x hx hne ht => by
      have e1 : dk_to (dk_tq tau) (s i.toNat) (s x) = dk_tq tau (s x) := if_neg (fun z => hne (hinj _ _ hx (by omega) z))
      have e2 : dk_tq tau (s x) = tau (s x) := if_neg (by have := (hs.2 x hx).1; omega)
      rw [← e2, ← e1]
      exact ht
    unfold dk_rot at ht
    rw [aw, aw2]
    by_cases e1 : k < i.toNat
    · rw [if_pos e1] at ht
      obtain ⟨r1, r2⟩ := hrp.2 k (by omega) t (key k (by omega) (by omega) ht)
      have h48 := (hU _ t (key k (by omega) (by omega) ht)).1.2.1
      refine ⟨?_, fun p p0 p1 => ?_⟩
      · have e : rd_f (A 55) i (n - i) 1 k = A 55 k := if_neg (by omega)
        rw [e]
        exact r1
      · have e : rd_f (A 54) (i * 48) ((n - i) * 48) 48 (48 * (k : Int) + p) = A 54 (48 * (k : Int) + p) := if_neg (by omega)
        rw [e]
        exact r2 p p0 p1
    · rw [if_neg e1, if_pos (by omega)] at ht
      obtain ⟨r1, r2⟩ := hrp.2 (k + 1) (by omega) t (key (k + 1) (by omega) (by omega) ht)
      have h48 := (hU _ t (key (k + 1) (by omega) (by omega) ht)).1.2.1
      refine ⟨?_, fun p p0 p1 => ?_⟩
      · have e : rd_f (A 55) i (n - i) 1 k = A 55 (k + 1) := if_pos (by omega)
        rw [e]
        exact r1
      · have e : rd_f (A 54) (i * 48) ((n - i) * 48) 48 (48 * (k : Int) + p) = A 54 (48 * (k : Int) + p + 48) := if_pos (by omega)
        rw [e, show 48 * (k : Int) + p + 48 = 48 * ((k + 1 : Nat) : Int) + p by omega]
        exact r2 p p0 p1
  · unfold rx_E
    rw [i3 40 (by decide) (by decide) (by decide), i3 33 (by decide) (by decide) (by decide), i3 35 (by decide) (by decide) (by decide)]
    exact hE
end RMD2
