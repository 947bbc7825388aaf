/-! The reference tests all that must stay different. -/
theorem mo_un_st {G : mo_G} {tr : Bool} : ∀ (m : Nat) (st : Int) (u : mo_U), st ≤ (mo_un G tr m st u).2.1
  | 0, _, _ => Int.le_refl _
  | m + 1, st, ([], u) => Int.le_refl _
  | m + 1, st, (p :: ps, bd, ch, wk, fl) => by
    have e : mo_un G tr (m + 1) st (p :: ps, bd, ch, wk, fl) = if 500 ≤ st then (2, st, bd, ch, wk, fl) else match mo_u1 G tr (mo_val G bd p.1) (mo_val G bd p.2) ps bd ch wk fl with
        | none => (0, st + 1, bd, ch, wk, fl)
        | some u => mo_un G tr m (st + 1) u := rfl
    rw [e]
    by_cases h : 500 ≤ st
    · rw [if_pos h]
      exact Int.le_refl _
    · rw [if_neg h]
      cases mo_u1 G tr (mo_val G bd p.1) (mo_val G bd p.2) ps bd ch wk fl with
      | none => show st ≤ st + 1; omega
      | some u =>
        have := mo_un_st (G := G) (tr := tr) m (st + 1) u
        show st ≤ (mo_un G tr m (st + 1) u).2.1
        omega
theorem mo_ur_st1 {G : mo_G} {tr : Bool} {st : Int} {p : Int × Int} {ps : List (Int × Int)} {v : (Int → Int) × (Int → List Int) × List Int × Bool} (hst : st ≤ 500) (h : (mo_ur G tr st (p :: ps, v)).1 ≠ 2) : st + 1 ≤ (mo_ur G tr st (p :: ps, v)).2.1 := by
  obtain ⟨bd, ch, wk, fl⟩ := v
  unfold mo_ur at h ⊢
  obtain ⟨m, hm⟩ : ∃ m, (501 - st).toNat = m + 1 := ⟨(501 - st).toNat - 1, by omega⟩
  rw [hm] at h ⊢
  have e : mo_un G tr (m + 1) st (p :: ps, bd, ch, wk, fl) = if 500 ≤ st then (2, st, bd, ch, wk, fl) else match mo_u1 G tr (mo_val G bd p.1) (mo_val G bd p.2) ps bd ch wk fl with
      | none => (0, st + 1, bd, ch, wk, fl)
      | some u => mo_un G tr m (st + 1) u := rfl
  rw [e] at h ⊢
  by_cases h5 : 500 ≤ st
  · rw [if_pos h5] at h
    exact absurd rfl h
  · rw [if_neg h5]
    cases mo_u1 G tr (mo_val G bd p.1) (mo_val G bd p.2) ps bd ch wk fl with
    | none => exact Int.le_refl _
    | some u => exact mo_un_st m (st + 1) u
theorem mo_hold_skip {G : mo_G} {bd : Int → Int} {ch : Int → List Int} {wk : List Int} {al ar : Int → Int} {aw : Int → Bool} : ∀ (n m : Nat) (st i : Int), (∀ j, i ≤ j → j < i + n → aw j = false) → mo_hold G bd ch wk al ar (m + n) st i aw = mo_hold G bd ch wk al ar m st (i + n) aw
  | 0, m, st, i, _ => by rw [Nat.add_zero, show i + ((0 : Nat) : Int) = i by omega]
  | n + 1, m, st, i, h => by
    have e : mo_hold G bd ch wk al ar (m + n + 1) st i aw = mo_hold G bd ch wk al ar (m + n) st (i + 1) aw := by
      show (if aw i = true then _ else _) = _
      rw [if_neg (by rw [h i (Int.le_refl _) (by omega)]; decide)]
    rw [← Nat.add_assoc, e, mo_hold_skip n m st (i + 1) (fun j h1 h2 => h j (by omega) (by omega)), show i + 1 + (n : Int) = i + ((n + 1 : Nat) : Int) by omega]
/-- those that must stay different, in the reference's rows; rl tells which they are -/
def rx_A (G : mo_G) (ta : Int → Int) (nc : Int) (A : Nat → Int → Int) (gone : Int → Int) (al ar rl : Int → Int) (na an : Int) (aw : Int → Bool) : Prop := (0 ≤ na ∧ na ≤ an) ∧ (∀ k, 0 ≤ k → k < na → (0 ≤ rl k ∧ rl k < an) ∧ rm_t G ta nc (A 75 k) (al (rl k)) ∧ rm_t G ta nc (A 76 k) (ar (rl k)) ∧ gone k = if aw (rl k) = true then 0 else 1) ∧ (∀ j k, 0 ≤ j → j < k → k < na → rl j < rl k) ∧ ∀ i, 0 ≤ i → i < an → aw i = true → ∃ k, 0 ≤ k ∧ k < na ∧ rl k = i
section RUH
variable {L : Nat} {xs : Nat → Int32} {S : ty_S} {G : mo_G} {ta : Int → Int} {nc made ns : Int}
def rh_f (I : Nat → Int) (A : Nat → Int → Int) (I' : Nat → Int) (A' : Nat → Int → Int) : Prop := (∀ k, k ≠ 30 → k ≠ 11 → k ≠ 32 → k ≠ 36 → k ≠ 39 → k ≠ 37 → I' k = I k) ∧ (∀ q, q ≠ 71 → q ≠ 72 → q ≠ 78 → q ≠ 79 → q ≠ 77 → A' q = A q) ∧ rt_ud A (I 32) A' (I' 32)
theorem rh_f.refl {I : Nat → Int} {A : Nat → Int → Int} : rh_f I A I A := ⟨fun _ _ _ _ _ _ _ => rfl, fun _ _ _ _ _ _ => rfl, .refl⟩
theorem rh_f.trans {I I1 I2 : Nat → Int} {A A1 A2 : Nat → Int → Int} (h : rh_f I A I1 A1) (g : rh_f I1 A1 I2 A2) : rh_f I A I2 A2 := ⟨fun k h1 h2 h3 h4 h5 h6 => (g.1 k h1 h2 h3 h4 h5 h6).trans (h.1 k h1 h2 h3 h4 h5 h6), fun q h1 h2 h3 h4 h5 => (g.2.1 q h1 h2 h3 h4 h5).trans (h.2.1 q h1 h2 h3 h4 h5), h.2.2.trans g.2.2⟩
theorem rh_fm.toF {I I' : Nat → Int} {A A' : Nat → Int → Int} (h : rh_fm I A I' A') : rh_f I A I' A' := ⟨fun k h1 h2 h3 h4 h5 h6 => h.1 k h1 h2 h4 h5 h6, fun q h1 h2 h3 h4 h5 => h.2.1 q h1 h2 h3 h4, rh_fm_ud h⟩
def ru_pos (rl : Int → Int) (k : Int) : Int := if k = 0 then 0 else rl (k - 1) + 1
theorem ru_hold (d : Nat) (hS : ty_st S) (hw : mo_wf G) (hmade : made ≤ 13000) {bd : Int → Int} {ch : Int → List Int} {wk dn : List Int} (hbw : mo_bw G made bd) (hcw : mo_cw made ns bd ch (dn ++ wk)) {al ar rl : Int → Int} {na an : Int} (han : an ≤ 500) (hok : ∀ i, 0 ≤ i → i < an → mo_ok G made (al i) ∧ mo_ok G made (ar i)) {HR : Int × Int × (Int → Bool)} {b n : Int32} {Q : ai_O → ty_S → Prop} :
    ∀ (m : Nat) (k st : Int) (I : Nat → Int) (A : Nat → Int → Int) (aw : Int → Bool) (x4 : Option Int32), na = k + m → 0 ≤ k → rh_R I A G ta nc made ns st 0 bd ch → rx_A G ta nc A (A 77) al ar rl na an aw → I 35 = na → mo_hold G bd ch wk al ar (an - ru_pos rl k).toNat st (ru_pos rl k) aw = HR →
      (∀ I' A' (x3 : Int32) (x4 : Option Int32), HR.1 = 1 → rh_R I' A' G ta nc made ns HR.2.1 0 bd ch → rx_A G ta nc A' (A' 77) al ar rl na an HR.2.2 → rh_f I A I' A' → ty_W L xs (d + 5) 131 156 [some (.inr (.inr (some (94, 0)))), some (.inl b), some (.inl n), some (.inl x3), x4.map .inl] [] (rm_s S I' A') Q) →
      (∀ I' A', HR.1 ≠ 1 → rh_R I' A' G ta nc made ns HR.2.1 (if HR.1 = 2 then 3 else 0) bd ch → rx_A G ta nc A' (A' 77) al ar rl na an HR.2.2 → rh_f I A I' A' → Q (.inl (some (.inl (ty_J 0)))) (rm_s S I' A')) →
      ty_W L xs (d + 5) 131 77 [some (.inr (.inr (some (94, 0)))), some (.inl b), some (.inl n), some (.inl (ty_J k)), x4.map .inl] [] (rm_s S I A) Q := by
  intro m
  induction m with
  | zero =>
    intro k st I A aw x4 hk h0 hR hA hI hH ok fail
    have hpos : 0 ≤ ru_pos rl k ∧ ru_pos rl k ≤ an := by
      unfold ru_pos
      split
      · have := hA.1; omega
      · have := (hA.2.1 (k - 1) (by omega) (by omega)).1; omega
    have hsk := mo_hold_skip (G := G) (bd := bd) (ch := ch) (wk := wk) (al := al) (ar := ar) (aw := aw) (an - ru_pos rl k).toNat 0 st (ru_pos rl k) (fun j h1 h2 => by
      cases e : aw j with
      | false => rfl
      | true =>
        obtain ⟨q, q0, q1, q2⟩ := hA.2.2.2 j (by omega) (by omega) e
        by_cases ek : k = 0
        · omega
        · unfold ru_pos at h1
          rw [if_neg ek] at h1
          by_cases eq : q = k - 1
          · subst eq; omega
          · have := hA.2.2.1 q (k - 1) q0 (by omega) (by omega)
            omega)
    rw [Nat.zero_add, hH] at hsk
    have hHR : HR = (1, st, aw) := hsk
    subst hHR
    have hna := hA.1
    refine ty_iload_n (pc := 77) (i := 3) (ks := []) (by decide +kernel) rfl ?_
    refine ty_aload_n (pc := 78) (i := 0) (ks := []) (by decide +kernel) rfl ?_
    refine ty_getI (pc := 79) (idx := 263) (ci := 13) (f := 35) (by decide +kernel) (by first | rfl | assumption) rfl (by first | exact hS.1 _ _ rfl | assumption) (fun v hv => ?_)
    simp (decide := true) only [rm_I, rm_u, rm_w, ty_sI, ty_sR, ty_sA, ty_sQ, ty_mA, ty_mQ, ↓reduceIte, false_and, and_false, true_and, and_true, and_self] at hv
    subst hv
    -- at 82: .if_icmp .ge 74
    refine ty_icmp_ge (pc := 82) (off := 74) (t := 156) (ks := []) (by decide +kernel) (by omega) (by omega) (fun hc => ?_) (fun hc => ?_)
    · exact ok I A _ _ rfl hR hA .refl
    · omega
  | succ m ih =>
    intro k st I A aw x4 hk h0 hR hA hI hH ok fail
    have hna := hA.1
    obtain ⟨⟨r1, r2⟩, r3, r4, r5⟩ := hA.2.1 k h0 (by omega)
    have hpos : 0 ≤ ru_pos rl k ∧ ru_pos rl k ≤ rl k := by
      unfold ru_pos
      split
      · omega
      · have h1 := (hA.2.1 (k - 1) (by omega) (by omega)).1
        have h2 := hA.2.2.1 (k - 1) k (by omega) (by omega) (by omega)
        omega
    have hsk := mo_hold_skip (G := G) (bd := bd) (ch := ch) (wk := wk) (al := al) (ar := ar) (aw := aw) (rl k - ru_pos rl k).toNat ((an - rl k).toNat - 1 + 1) st (ru_pos rl k) (fun j h1 h2 => by
      cases e : aw j with
      | false => rfl
      | true =>
        obtain ⟨q, q0, q1, q2⟩ := hA.2.2.2 j (by omega) (by omega) e
        by_cases eq : q < k
        · have hk0 : k ≠ 0 := by omega
          unfold ru_pos at h1
          rw [if_neg hk0] at h1
          by_cases eq2 : q = k - 1
          · subst eq2; omega
          · have := hA.2.2.1 q (k - 1) q0 (by omega) (by omega)
            omega
        · by_cases eq3 : q = k
          · subst eq3; omega
          · have := hA.2.2.1 k q h0 (by omega) q1
            omega)
    rw [show (an - rl k).toNat - 1 + 1 + (rl k - ru_pos rl k).toNat = (an - ru_pos rl k).toNat by omega, hH, show ru_pos rl k + (((rl k - ru_pos rl k).toNat : Nat) : Int) = rl k by omega] at hsk
    have hpk : ru_pos rl (k + 1) = rl k + 1 := by
      unfold ru_pos
      rw [if_neg (by omega), show k + 1 - 1 = k by omega]
    have hpn : (an - ru_pos rl (k + 1)).toNat = (an - rl k).toNat - 1 := by rw [hpk]; omega
    have step : HR = if aw (rl k) = true then
      (if (mo_ur G true st ([(al (rl k), ar (rl k))], bd, ch, wk, false)).1 = 2 then (2, (mo_ur G true st ([(al (rl k), ar (rl k))], bd, ch, wk, false)).2.1, aw)
       else if (mo_ur G true st ([(al (rl k), ar (rl k))], bd, ch, wk, false)).1 = 1 then (if (mo_ur G true st ([(al (rl k), ar (rl k))], bd, ch, wk, false)).2.2.2.2.2 = true then mo_hold G bd ch wk al ar ((an - rl k).toNat - 1) (mo_ur G true st ([(al (rl k), ar (rl k))], bd, ch, wk, false)).2.1 (rl k + 1) aw else (0, (mo_ur G true st ([(al (rl k), ar (rl k))], bd, ch, wk, false)).2.1, aw))
       else mo_hold G bd ch wk al ar ((an - rl k).toNat - 1) (mo_ur G true st ([(al (rl k), ar (rl k))], bd, ch, wk, false)).2.1 (rl k + 1) (mo_uw aw (rl k) false))
    else mo_hold G bd ch wk al ar ((an - rl k).toNat - 1) st (rl k + 1) aw := hsk
    clear hsk hH
    have hgr : 0 ≤ A 77 k ∧ A 77 k ≤ 1 := by rw [r5]; split <;> omega
    refine ty_iload_n (pc := 77) (i := 3) (ks := []) (by decide +kernel) rfl ?_
    refine ty_aload_n (pc := 78) (i := 0) (ks := []) (by decide +kernel) rfl ?_
    refine ty_getI (pc := 79) (idx := 263) (ci := 13) (f := 35) (by decide +kernel) (by first | rfl | assumption) rfl (by first | exact hS.1 _ _ rfl | assumption) (fun v hv => ?_)
    simp (decide := true) only [rm_I, rm_u, rm_w, ty_sI, ty_sR, ty_sA, ty_sQ, ty_mA, ty_mQ, ↓reduceIte, false_and, and_false, true_and, and_true, and_self] at hv
    subst hv
    -- at 82: .if_icmp .ge 74
    refine ty_icmp_ge (pc := 82) (off := 74) (t := 156) (ks := []) (by decide +kernel) (by omega) (by omega) (fun hc => ?_) (fun hc => ?_)
    · omega
    clear hc
    refine ty_aload_n (pc := 85) (i := 0) (ks := []) (by decide +kernel) rfl ?_
    refine ty_getS (b := (77, 0)) (pc := 86) (idx := 87) (ci := 13) (f := 47) (by decide +kernel) (by first | rfl | assumption) rfl (by first | exact hS.1 _ _ rfl | assumption) (by first | exact hS.2.2 _ _ _ _ rfl | assumption) ?_
    refine ty_iload_n (pc := 89) (i := 3) (ks := []) (by decide +kernel) rfl ?_
    refine ty_iaload (pc := 90) (ks := []) (by decide +kernel) (by first | rfl | assumption) (by rfl) (by first | exact hS.1 _ _ rfl | assumption) (by first | exact hS.2.1 _ _ _ rfl | assumption) (by omega) (fun v hv => ?_)
    rw [rm_A (by decide)] at hv
    first | (simp (decide := true) only [rm_w, ty_sI, ty_sR, ty_sA, ty_sQ, ty_mA, ty_mQ, ↓reduceIte, false_and, and_false, true_and, and_true, and_self] at hv) | skip
    subst hv
    refine ty_iconst (pc := 91) (n := 1) (ks := []) (by decide +kernel) ?_
    -- at 92: .if_icmp .ne 6
    by_cases ew : aw (rl k) = true
    · rw [if_pos ew] at r5 step
      refine ty_icmp_ne (pc := 92) (off := 6) (t := 98) (ks := []) (by decide +kernel) (by omega) (by omega) (fun hc => ?_) (fun hc => ?_)
      rotate_left
      · omega
      clear hc
      obtain ⟨o1, o2⟩ := hok (rl k) r1 r2
      have hinv := mo_un_inv hw (made := made) (ns := ns) (by omega) (tr := true) (dn := dn) (501 - st).toNat st [(al (rl k), ar (rl k))] bd ch wk false (by have := hR.1; omega) hR.1.2.2 (fun p hp => by rw [List.mem_singleton.mp hp]; exact ⟨o1, o2⟩) hbw hcw
      have hst1 := mo_ur_st1 (G := G) (tr := true) (st := st) (p := (al (rl k), ar (rl k))) (ps := []) (v := (bd, ch, wk, false)) hR.1.2.2
      have hT := rm_test (L := L) (xs := xs) d hS hw hmade (w := []) hR r3 r4 o1 o2 hbw hcw
      have hur : mo_un G true (501 - st).toNat st ([(al (rl k), ar (rl k))], bd, ch, wk, false) = mo_ur G true st ([(al (rl k), ar (rl k))], bd, ch, wk, false) := rfl
      rw [hur] at hinv
      generalize mo_ur G true st ([(al (rl k), ar (rl k))], bd, ch, wk, false) = u at step hinv hT hst1
      clear hur
      obtain ⟨uc, ust, ubd, uch, uwk, ufl⟩ := u
      simp only at step hinv hT hst1
      obtain ⟨i1, i2, -⟩ := hinv
      refine ty_aload_n (pc := 98) (i := 0) (ks := []) (by decide +kernel) rfl ?_
      refine ty_aload_n (pc := 99) (i := 0) (ks := []) (by decide +kernel) rfl ?_
      refine ty_getS (b := (75, 0)) (pc := 100) (idx := 81) (ci := 13) (f := 45) (by decide +kernel) (by first | rfl | assumption) rfl (by first | exact hS.1 _ _ rfl | assumption) (by first | exact hS.2.2 _ _ _ _ rfl | assumption) ?_
      refine ty_iload_n (pc := 103) (i := 3) (ks := []) (by decide +kernel) rfl ?_
      refine ty_iaload (pc := 104) (ks := []) (by decide +kernel) (by first | rfl | assumption) (by rfl) (by first | exact hS.1 _ _ rfl | assumption) (by first | exact hS.2.1 _ _ _ rfl | assumption) (by omega) (fun v hv => ?_)
      rw [rm_A (by decide)] at hv
      first | (simp (decide := true) only [rm_w, ty_sI, ty_sR, ty_sA, ty_sQ, ty_mA, ty_mQ, ↓reduceIte, false_and, and_false, true_and, and_true, and_self] at hv) | skip
      subst hv
      refine ty_aload_n (pc := 105) (i := 0) (ks := []) (by decide +kernel) rfl ?_
      refine ty_getS (b := (76, 0)) (pc := 106) (idx := 84) (ci := 13) (f := 46) (by decide +kernel) (by first | rfl | assumption) rfl (by first | exact hS.1 _ _ rfl | assumption) (by first | exact hS.2.2 _ _ _ _ rfl | assumption) ?_
      refine ty_iload_n (pc := 109) (i := 3) (ks := []) (by decide +kernel) rfl ?_
      refine ty_iaload (pc := 110) (ks := []) (by decide +kernel) (by first | rfl | assumption) (by rfl) (by first | exact hS.1 _ _ rfl | assumption) (by first | exact hS.2.1 _ _ _ rfl | assumption) (by omega) (fun v hv => ?_)
      rw [rm_A (by decide)] at hv
      first | (simp (decide := true) only [rm_w, ty_sI, ty_sR, ty_sA, ty_sQ, ty_mA, ty_mQ, ↓reduceIte, false_and, and_false, true_and, and_true, and_self] at hv) | skip
      subst hv
      -- at 111: .invokevirtual 266
      refine ty_callv (pc := 111) (idx := 266) (m := 138) (n := 3) (c := 13) (vs := [_, _]) (r := []) (by decide +kernel) rfl rfl (Nat.le_of_ble_eq_true rfl) (by first | rfl | assumption) (by first | exact hS.1 _ _ rfl | assumption) hT ?_
      rintro _ S1 ⟨z, rfl, hz, I1, A1, rfl, hf1, hs1, ht1⟩
      refine ty_KI ?_
      have hR1 := rh_fm_R hR hf1 hs1 ht1 i2
      have hA1 : rx_A G ta nc A1 (A1 77) al ar rl na an aw := by
        unfold rx_A
        rw [hf1.2.1 77 (by decide) (by decide) (by decide) (by decide), hf1.2.1 75 (by decide) (by decide) (by decide) (by decide), hf1.2.1 76 (by decide) (by decide) (by decide) (by decide)]
        exact hA
      have hI1 : I1 35 = na := (hf1.1 _ (by decide) (by decide) (by decide) (by decide) (by decide)).trans hI
      unfold rt_z at hz
      simp only at hz
      by_cases c2 : uc = 2
      · rw [if_pos c2] at step hz hR1
        subst hz
        refine ty_istore (pc := 114) (i := 4) (ks := []) (ls' := [_, _, _, _, _]) (by decide +kernel) rfl ?_
        refine ty_iload (pc := 116) (i := 4) (ks := []) (by decide +kernel) rfl ?_
        refine ty_iconst (pc := 118) (n := 2) (ks := []) (by decide +kernel) ?_
        -- at 119: .if_icmp .ne 5
        refine ty_icmp_ne (pc := 119) (off := 5) (t := 124) (ks := []) (by decide +kernel) (by omega) (by omega) (fun hc => ?_) (fun hc => ?_)
        · exact absurd rfl hc
        refine ty_iconst (pc := 122) (n := 0) (ks := []) (by decide +kernel) ?_
        -- at 123: .ireturn
        refine ty_ret_i (pc := 123) (ks := []) (ty := .boolean) (by decide +kernel) rfl (ty_fit_z (by omega)) ?_
        subst step
        exact fail I1 A1 (show (2 : Int) ≠ 1 by decide) hR1 hA1 hf1.toF
      · rw [if_neg c2] at step hz hR1
        have hst1 := hst1 c2
        by_cases c1 : uc = 1
        · rw [if_pos c1] at step hz
          by_cases cf : ufl = true
          · rw [if_pos cf] at step hz
            subst hz
            refine ty_istore (pc := 114) (i := 4) (ks := []) (ls' := [_, _, _, _, _]) (by decide +kernel) rfl ?_
            refine ty_iload (pc := 116) (i := 4) (ks := []) (by decide +kernel) rfl ?_
            refine ty_iconst (pc := 118) (n := 2) (ks := []) (by decide +kernel) ?_
            -- at 119: .if_icmp .ne 5
            refine ty_icmp_ne (pc := 119) (off := 5) (t := 124) (ks := []) (by decide +kernel) (by omega) (by omega) (fun hc => ?_) (fun hc => ?_)
            rotate_left
            · omega
            clear hc
            refine ty_iload (pc := 124) (i := 4) (ks := []) (by decide +kernel) rfl ?_
            refine ty_iconst (pc := 126) (n := 1) (ks := []) (by decide +kernel) ?_
            -- at 127: .if_icmp .ne 6
            refine ty_icmp_ne (pc := 127) (off := 6) (t := 133) (ks := []) (by decide +kernel) (by omega) (by omega) (fun hc => ?_) (fun hc => ?_)
            · exact absurd rfl hc
            clear hc
            refine ty_goto (pc := 130) (off := 20) (t := 150) (ks := []) (by decide +kernel) ?_
            refine ty_iinc (pc := 150) (i := 3) (n := 1) (ks := []) (ls' := [_, _, _, _, _]) (by decide +kernel) rfl rfl ?_
            refine ty_goto (pc := 153) (off := (-76)) (t := 77) (ks := []) (by decide +kernel) ?_
            -- at 77: .iload_n 3
            have := ih (k + 1) ust I1 A1 aw (some (ty_J 1)) (by omega) (by omega) hR1 hA1 hI1 (by rw [hpn, hpk]; exact step.symm) (fun I' A' x3 x4 q1 q2 q3 q4 => ok I' A' x3 x4 q1 q2 q3 (hf1.toF.trans q4)) (fun I' A' q1 q2 q3 q4 => fail I' A' q1 q2 q3 (hf1.toF.trans q4))
            exact this
          · rw [if_neg cf] at step hz
            subst hz
            refine ty_istore (pc := 114) (i := 4) (ks := []) (ls' := [_, _, _, _, _]) (by decide +kernel) rfl ?_
            refine ty_iload (pc := 116) (i := 4) (ks := []) (by decide +kernel) rfl ?_
            refine ty_iconst (pc := 118) (n := 2) (ks := []) (by decide +kernel) ?_
            -- at 119: .if_icmp .ne 5
            refine ty_icmp_ne (pc := 119) (off := 5) (t := 124) (ks := []) (by decide +kernel) (by omega) (by omega) (fun hc => ?_) (fun hc => ?_)
            · exact absurd rfl hc
            refine ty_iconst (pc := 122) (n := 0) (ks := []) (by decide +kernel) ?_
            -- at 123: .ireturn
            refine ty_ret_i (pc := 123) (ks := []) (ty := .boolean) (by decide +kernel) rfl (ty_fit_z (by omega)) ?_
            subst step
            exact fail I1 A1 (show (0 : Int) ≠ 1 by decide) hR1 hA1 hf1.toF
        · rw [if_neg c1] at step hz
          subst hz
          refine ty_istore (pc := 114) (i := 4) (ks := []) (ls' := [_, _, _, _, _]) (by decide +kernel) rfl ?_
          refine ty_iload (pc := 116) (i := 4) (ks := []) (by decide +kernel) rfl ?_
          refine ty_iconst (pc := 118) (n := 2) (ks := []) (by decide +kernel) ?_
          -- at 119: .if_icmp .ne 5
          refine ty_icmp_ne (pc := 119) (off := 5) (t := 124) (ks := []) (by decide +kernel) (by omega) (by omega) (fun hc => ?_) (fun hc => ?_)
          rotate_left
          · omega
          clear hc
          refine ty_iload (pc := 124) (i := 4) (ks := []) (by decide +kernel) rfl ?_
          refine ty_iconst (pc := 126) (n := 1) (ks := []) (by decide +kernel) ?_
          -- at 127: .if_icmp .ne 6
          refine ty_icmp_ne (pc := 127) (off := 6) (t := 133) (ks := []) (by decide +kernel) (by omega) (by omega) (fun hc => ?_) (fun hc => ?_)
          rotate_left
          · omega
          clear hc
          have htl := hR.2.2.1.1
          have etl := hf1.1 32 (by decide) (by decide) (by decide) (by decide) (by decide)
          refine ty_aload_n (pc := 133) (i := 0) (ks := []) (by decide +kernel) rfl ?_
          refine ty_iload_n (pc := 134) (i := 3) (ks := []) (by decide +kernel) rfl ?_
          refine ty_iconst (pc := 135) (n := 5) (ks := []) (by decide +kernel) ?_
          refine ty_imul (pc := 136) (ks := []) (by decide +kernel) ?_
          refine ty_iconst (pc := 137) (n := 4) (ks := []) (by decide +kernel) ?_
          refine ty_iadd (pc := 138) (ks := []) (by decide +kernel) ?_
          refine ty_iconst (pc := 139) (n := 0) (ks := []) (by decide +kernel) ?_
          -- at 140: .invokevirtual 225
          refine ty_callv (pc := 140) (idx := 225) (m := 136) (n := 3) (c := 13) (vs := [_, _]) (r := []) (by decide +kernel) rfl rfl (Nat.le_of_ble_eq_true rfl) (by first | rfl | assumption) (by first | exact hS.1 _ _ rfl | assumption) ((rm_change (L := L) (xs := xs) (I := I1) (A := A1) d hS (tl := I1 32) rfl ⟨by omega, by omega⟩).deeper (by omega)) ?_
          rintro _ S1 ⟨rfl, rfl⟩
          refine ty_KV ?_
          have hgone : A1 77 k = 0 := by rw [hf1.2.1 77 (by decide) (by decide) (by decide) (by decide)]; exact r5
          refine ty_aload_n (pc := 143) (i := 0) (ks := []) (by decide +kernel) rfl ?_
          refine ty_getS (b := (77, 0)) (pc := 144) (idx := 87) (ci := 13) (f := 47) (by decide +kernel) (by first | rfl | assumption) rfl (by first | exact hS.1 _ _ rfl | assumption) (by first | exact hS.2.2 _ _ _ _ rfl | assumption) ?_
          refine ty_iload_n (pc := 147) (i := 3) (ks := []) (by decide +kernel) rfl ?_
          refine ty_iconst (pc := 148) (n := 1) (ks := []) (by decide +kernel) ?_
          refine ty_iastore (pc := 149) (ks := []) (by decide +kernel) (by first | rfl | assumption) (by rfl) (by first | exact hS.1 _ _ rfl | assumption) (by first | exact hS.2.1 _ _ _ rfl | assumption) (by omega) ?_
          rw [rm_sA (by decide)]
          refine ty_iinc (pc := 150) (i := 3) (n := 1) (ks := []) (ls' := [_, _, _, _, _]) (by decide +kernel) rfl rfl ?_
          refine ty_goto (pc := 153) (off := (-76)) (t := 77) (ks := []) (by decide +kernel) ?_
          -- at 77: .iload_n 3
          generalize hA2 : rm_w (rm_w (rm_w A1 71 (I1 32) (k * 5 + 4)) 72 (I1 32) 0) 77 k 1 = A2
          have hud : rt_ud A1 (I1 32) A2 (I1 32 + 1) := rt_ud_1 (r := 4) (s := 77) (w := k) (old := 0) (x := 1) (by simp) hA2.symm hgone
          have aO : ∀ q, q ≠ 71 → q ≠ 72 → q ≠ 77 → A2 q = A1 q := fun q h1 h2 h3 => by
            rw [← hA2]
            funext j
            simp [rm_w, h1, h2, h3]
          have aG : ∀ j, A2 77 j = if j = k then 1 else A1 77 j := fun j => by
            rw [← hA2]
            simp [rm_w]
          have aT : ∀ j, A2 71 j = if j = I1 32 then k * 5 + 4 else A1 71 j := fun j => by
            rw [← hA2]
            simp [rm_w]
          clear hA2
          have hf2 : rh_f I A (rm_u I1 32 (I1 32 + 1)) A2 := hf1.toF.trans ⟨fun q h1 h2 h3 h4 h5 h6 => if_neg h3, fun q h1 h2 h3 h4 h5 => aO q h1 h2 h5, hud⟩
          refine ih (k + 1) ust (rm_u I1 32 (I1 32 + 1)) A2 (mo_uw aw (rl k) false) (some (ty_J 0)) (by omega) (by omega) ?_ ?_ hI1 (by rw [hpn, hpk]; exact step.symm) (fun I' A' x3 x4 q1 q2 q3 q4 => ok I' A' x3 x4 q1 q2 q3 (hf2.trans q4)) (fun I' A' q1 q2 q3 q4 => fail I' A' q1 q2 q3 (hf2.trans q4))
          · obtain ⟨b1, b2, b3, b4, b5, b6, b7, b8⟩ := hR1
            refine ⟨b1, b2, ⟨⟨show 0 ≤ I1 32 + 1 by omega, show I1 32 + 1 ≤ 4 * ust by omega⟩, fun j j0 j1 => ?_⟩, b4, ?_, ?_, fun c c0 c1' => rm_cell_e (b7 c c0 c1') (aO _ (by decide) (by decide) (by decide)) (aO _ (by decide) (by decide) (by decide)) (aO _ (by decide) (by decide) (by decide)), b8⟩
            · rw [aT]
              have j1 : j < I1 32 + 1 := j1
              by_cases e : j = I1 32
              · rw [if_pos e]
                omega
              · rw [if_neg e]
                exact b3.2 j j0 (by omega)
            · rw [aO _ (by decide) (by decide) (by decide)]
              exact b5
            · rw [aO 64 (by decide) (by decide) (by decide), aO 65 (by decide) (by decide) (by decide), aO 74 (by decide) (by decide) (by decide)]
              exact b6
          · obtain ⟨g1, g2, g3, g4⟩ := hA1
            refine ⟨g1, fun j j0 j1 => ?_, g3, fun i i0 i1' hi => g4 i i0 i1' ?_⟩
            · obtain ⟨w1, w2, w3, w4⟩ := g2 j j0 j1
              rw [aO 75 (by decide) (by decide) (by decide), aO 76 (by decide) (by decide) (by decide), aG]
              refine ⟨w1, w2, w3, ?_⟩
              by_cases e : j = k
              · rw [if_pos e, e]
                unfold mo_uw
                rw [if_pos rfl, if_neg (by decide)]
              · rw [if_neg e, w4]
                unfold mo_uw
                have hne : rl j ≠ rl k := by
                  by_cases lt : j < k
                  · have := g3 j k j0 lt (by omega)
                    omega
                  · have := g3 k j h0 (by omega) j1
                    omega
                rw [if_neg hne]
            · unfold mo_uw at hi
              split at hi
              · exact absurd hi (by decide)
              · exact hi
    · rw [if_neg ew] at r5 step
      refine ty_icmp_ne (pc := 92) (off := 6) (t := 98) (ks := []) (by decide +kernel) (by omega) (by omega) (fun hc => ?_) (fun hc => ?_)
      · omega
      clear hc
      refine ty_goto (pc := 95) (off := 55) (t := 150) (ks := []) (by decide +kernel) ?_
      refine ty_iinc (pc := 150) (i := 3) (n := 1) (ks := []) (ls' := [_, _, _, _, _]) (by decide +kernel) rfl rfl ?_
      refine ty_goto (pc := 153) (off := (-76)) (t := 77) (ks := []) (by decide +kernel) ?_
      -- at 77: .iload_n 3
      exact ih (k + 1) st I A aw x4 (by omega) (by omega) hR hA hI (by rw [hpn, hpk]; exact step.symm) ok fail
end RUH
