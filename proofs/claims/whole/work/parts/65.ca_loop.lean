/-! hold. -/
section CAL
variable {L : Nat} {xs : Nat → Int32} {S : ty_S} {B F E : ai_A} {n : Nat} {G : mo_G} {made ns : Int} {sl : Int → Int}
def ca_s (S : ty_S) (i : Int) : ty_S := ty_sI (ty_sA (ty_sA S (45, 0) i 0) (46, 0) (S.1 (39, 0) 7) i) (39, 0) 7 (S.1 (39, 0) 7 + 1)
/-- rows that don't belong to variables and pairs may change -/
theorem cp_R_other {st k : Int} {u : mo_U} {T : ty_S} (hR : cp_R S B F E n G made ns sl st k u) (e2 : T.2.1 = S.2.1) (e3 : T.2.2.2 = S.2.2.2) (i1 : ∀ b j, b = (13, 0) ∨ b = (37, 0) ∨ b = (38, 0) → T.1 b j = S.1 b j)
    (a6 : ∀ b, (b = B ∨ b = F ∨ b = E ∨ b = (19, 0) ∨ b = (20, 0) ∨ b = (21, 0) ∨ b = (22, 0) ∨ b = (26, 0) ∨ b = (27, 0) ∨ b = (28, 0) ∨ b = (29, 0) ∨ b = (30, 0) ∨ b = (40, 0) ∨ b = (41, 0) ∨ b = (42, 0)) → T.2.2.1 b = S.2.2.1 b) : cp_R T B F E n G made ns sl st k u ∧ cp_ud S T B F E := by
  obtain ⟨r1, r2, r3, r4, r5, r6, r7, r8, r9, r10, r11, r12⟩ := hR
  refine ⟨⟨?_, ?_, ?_, ?_, ?_, ?_, ?_, ?_, ?_, ?_, ?_, r12⟩, ?_⟩
  · unfold ty_st; rw [e2, e3]; exact r1
  · unfold cv_sh; rw [e2, e3]; exact r2
  · unfold cv_g
    rw [a6 _ (by simp), a6 _ (by simp), a6 _ (by simp), a6 _ (by simp)]
    exact r3
  · rw [i1 _ _ (by simp)]; exact r4
  · rw [i1 _ _ (by simp)]; exact r5
  · rw [a6 _ (by simp), a6 _ (by simp), i1 _ _ (by simp)]; exact r6
  · rw [a6 _ (by simp), i1 _ _ (by simp)]; exact r7
  · rw [a6 _ (by simp), a6 _ (by simp), a6 _ (by simp), a6 _ (by simp)]; exact r8
  · rw [a6 _ (by simp)]; exact r9
  · rw [a6 _ (by simp), i1 _ _ (by simp)]; exact r10
  · rw [a6 _ (by simp), a6 _ (by simp), i1 _ _ (by simp)]; exact r11
  · refine ⟨by rw [i1 _ _ (by simp)]; omega, by rw [i1 _ _ (by simp)]; omega, fun q _ _ => ?_, fun q _ _ => ?_⟩
    · rw [a6 _ (by simp), a6 _ (by simp), i1 _ _ (by simp)]
    · rw [a6 F (by simp), a6 E (by simp), a6 _ (by simp), a6 _ (by simp), a6 _ (by simp), i1 _ _ (by simp)]
theorem ca_settled {st k : Int} {u : mo_U} (hR : cp_R S B F E n G made ns sl st k u) {an : Int} {al ar : Int → Int} {aw : Int → Bool} {q : Int} (hA : ca_R S an al ar aw q) {i : Int} (hi : 0 ≤ i ∧ i < an) (hw : aw i = true) :
    cp_R (ca_s S i) B F E n G made ns sl st k u ∧ ca_R (ca_s S i) an al ar (mo_uw aw i false) (q + 1) ∧ cp_ud S (ca_s S i) B F E ∧ ca_ud S (ca_s S i) ∧ ca_fm S (ca_s S i) B F E ∧ (ca_s S i).2.2.2.2.2.2.2 = S.2.2.2.2.2.2.2 := by
  have hV := hR.2.1
  have a1 : (ca_s S i).2.2.1 (45, 0) = mo_up (S.2.2.1 (45, 0)) i 0 := by
    show (ty_sA (ty_sA S (45, 0) i 0) (46, 0) _ i).2.2.1 (45, 0) = _
    rw [ty_sA_ne (by decide), ty_sA_at]
    rfl
  have a2 : (ca_s S i).2.2.1 (46, 0) = mo_up (S.2.2.1 (46, 0)) (S.1 (39, 0) 7) i := by
    show (ty_sA (ty_sA S (45, 0) i 0) (46, 0) _ i).2.2.1 (46, 0) = _
    rw [ty_sA_at, ty_sA_ne (by decide)]
    rfl
  have a3 : ∀ b, ¬ b = (45, 0) → ¬ b = (46, 0) → (ca_s S i).2.2.1 b = S.2.2.1 b := fun b h1 h2 => by
    show (ty_sA (ty_sA S (45, 0) i 0) (46, 0) _ i).2.2.1 b = _
    rw [ty_sA_ne h2, ty_sA_ne h1]
  have i1 : ∀ b j, ¬ (b = (39, 0) ∧ j = 7) → (ca_s S i).1 b j = S.1 b j := fun b j h => if_neg h
  have i2 : (ca_s S i).1 (39, 0) 7 = S.1 (39, 0) 7 + 1 := ty_sI_at
  have nW := (cv_ne hV (s := 45) (i := 0) (by decide)).1
  have nX := (cv_ne hV (s := 46) (i := 0) (by decide)).1
  obtain ⟨c1, c2⟩ := cp_R_other (T := ca_s S i) hR rfl rfl (fun b j h => i1 b j (by rintro ⟨z, -⟩; rcases h with h | h | h <;> exact absurd (h.symm.trans z) (by decide))) (fun b h => a3 b (fun z => by
      rcases h with h | h | h | h | h | h | h | h | h | h | h | h | h | h | h
      · exact nW.1 (h.symm.trans z)
      · exact nW.2.1 (h.symm.trans z)
      · exact nW.2.2 (h.symm.trans z)
      all_goals exact absurd (h.symm.trans z) (by decide)) (fun z => by
      rcases h with h | h | h | h | h | h | h | h | h | h | h | h | h | h | h
      · exact nX.1 (h.symm.trans z)
      · exact nX.2.1 (h.symm.trans z)
      · exact nX.2.2 (h.symm.trans z)
      all_goals exact absurd (h.symm.trans z) (by decide)))
  obtain ⟨h1, h2, h3⟩ := hA
  have hwi : S.2.2.1 (45, 0) i = 1 := by
    rw [(h2 i hi.1 hi.2).2.2, if_pos hw]
  refine ⟨c1, ⟨?_, fun j j0 j1 => ?_, ?_, fun j j0 j1 => ?_⟩, c2, ⟨by rw [i2]; omega, fun k k0 k1 => ?_⟩, ⟨fun b j b1 b2 b3 b4 => i1 b j (fun z => b3 z.1), rfl, fun b _ _ _ _ _ _ _ _ _ _ b11 b12 => a3 b b11 b12, rfl, rfl, rfl, rfl⟩, rfl⟩
  · rw [i1 _ _ (by decide)]; exact h1
  · rw [a1, a3 _ (by decide) (by decide), a3 _ (by decide) (by decide)]
    refine ⟨(h2 j j0 j1).1, (h2 j j0 j1).2.1, ?_⟩
    by_cases e : j = i
    · have z1 : mo_uw aw i false j = false := by simp [mo_uw, e]
      have z2 : mo_up (S.2.2.1 (45, 0)) i 0 j = 0 := by simp [mo_up, e]
      rw [z1, z2]
      rfl
    · have z1 : mo_uw aw i false j = aw j := by simp [mo_uw, e]
      have z2 : mo_up (S.2.2.1 (45, 0)) i 0 j = S.2.2.1 (45, 0) j := by simp [mo_up, e]
      rw [z1, z2]
      exact (h2 j j0 j1).2.2
  · rw [i2]
    have := h3.1
    omega
  · rw [a2]
    rw [i2] at j1
    simp only [mo_up]
    by_cases e : j = S.1 (39, 0) 7
    · rw [if_pos e]; omega
    · rw [if_neg e]; exact h3.2 j j0 (by omega)
  · rw [a1, a2, i2]
    exact ca_sw_settle k1 hwi
def ca_h (S : ty_S) (B F E : ai_A) (n : Nat) (G : mo_G) (made ns : Int) (sl : Int → Int) (v : (Int → Int) × (Int → List Int) × List Int × Bool) (an : Int) (al ar : Int → Int) (r : Int × Int × (Int → Bool)) : ai_O → ty_S → Prop := fun o S' => ca_fm S S' B F E ∧
  (((r.1 = 0 ∨ r.1 = 1) ∧ o = .inl (some (.inl (ty_J r.1))) ∧ (∃ ps, cp_R S' B F E n G made ns sl r.2.1 r.2.1 (ps, v)) ∧ ca_R S' an al ar r.2.2 r.2.1 ∧ cp_ud S S' B F E ∧ ca_ud S S' ∧ S'.2.2.2.2.2.2.2 = S.2.2.2.2.2.2.2) ∨
   (r.1 = 2 ∧ o = .inr 1 ∧ S'.2.2.2.2.2.2.2 = (S.2.2.2.2.2.2.2.1 + 1, S.2.2.2.2.2.2.2.2 + 6)))
theorem ca_loop (d : Nat) (hw : mo_wf G) (hmade : made ≤ 100000) {dn : List Int} {bd : Int → Int} {ch : Int → List Int} {wk : List Int} {fl : Bool} (hb : mo_bw G made bd) (hcw : mo_cw made ns bd ch (dn ++ wk)) {an fr : Int} {al ar : Int → Int} (hok : ∀ i, 0 ≤ i → i < an → mo_ok G made (al i) ∧ mo_ok G made (ar i)) :
    ∀ (m : Nat) (S : ty_S) (st i : Int) (aw : Int → Bool) (x4 x5 : Option ai_V) (ps : List (Int × Int)), m = (an - i).toNat → (0 ≤ i ∧ i ≤ 1000) → cp_R S B F E n G made ns sl st st (ps, bd, ch, wk, fl) → ca_R S an al ar aw st →
    ty_W L xs (d + 4) 89 4 [some (.inr (.inr (some (39, 0)))), some (.inl (ty_J fr)), some (.inl (ty_J 1)), some (.inl (ty_J i)), x4, x5] [] S (ca_h S B F E n G made ns sl (bd, ch, wk, fl) an al ar (mo_hold G bd ch wk al ar m st i aw)) := by
  intro m
  induction m with
  | zero =>
    intro S st i aw x4 x5 ps hm h0 hR hA
    have hS := hR.1
    have hA0 := hA.1
    refine ty_iload_n (pc := 4) (i := 3) (ks := []) (by decide +kernel) rfl ?_
    refine ty_aload_n (pc := 5) (i := 0) (ks := []) (by decide +kernel) rfl ?_
    refine ty_getI (pc := 6) (idx := 22) (ci := 9) (f := 5) (by decide +kernel) (by first | rfl | assumption) rfl (by first | exact hS.1 _ _ rfl | assumption) (fun v hv => ?_)
    subst hv
    -- at 9: .if_icmp .ge 110
    rw [hA0.1]
    refine ty_icmp_ge (pc := 9) (off := 110) (t := 119) (ks := []) (by decide +kernel) (by omega) (by omega) (fun hc => ?_) (fun hc => ?_)
    · refine ty_iload_n (pc := 119) (i := 2) (ks := []) (by decide +kernel) rfl ?_
      -- at 120: .ireturn
      refine ty_ret_i (pc := 120) (ks := []) (ty := .boolean) (by decide +kernel) rfl (ty_fit_z (by omega)) ?_
      exact ⟨ca_fm.refl, .inl ⟨.inr rfl, rfl, ⟨ps, hR⟩, hA, cp_ud.refl, ca_ud.refl, rfl⟩⟩
    · omega
  | succ m ih =>
    intro S st i aw x4 x5 ps hm h0 hR hA
    have hS := hR.1
    have hV := hR.2.1
    have hA0 := hA.1
    have hAi := hA.2.1 i h0.1 (by omega)
    have hR5 := hR.2.2.2.2.1
    have hR10 := hR.2.2.2.2.2.2.2.2.2.1
    refine ty_iload_n (pc := 4) (i := 3) (ks := []) (by decide +kernel) rfl ?_
    refine ty_aload_n (pc := 5) (i := 0) (ks := []) (by decide +kernel) rfl ?_
    refine ty_getI (pc := 6) (idx := 22) (ci := 9) (f := 5) (by decide +kernel) (by first | rfl | assumption) rfl (by first | exact hS.1 _ _ rfl | assumption) (fun v hv => ?_)
    subst hv
    -- at 9: .if_icmp .ge 110
    rw [hA0.1]
    refine ty_icmp_ge (pc := 9) (off := 110) (t := 119) (ks := []) (by decide +kernel) (by omega) (by omega) (fun hc => ?_) (fun hc => ?_)
    · omega
    · refine ty_iload_n (pc := 12) (i := 2) (ks := []) (by decide +kernel) rfl ?_
      -- at 13: .ifCond .eq 106
      refine ty_if_eq (pc := 13) (off := 106) (t := 119) (ks := []) (by decide +kernel) (by omega) (fun hc => ?_) (fun hc => ?_)
      · omega
      · refine ty_aload_n (pc := 16) (i := 0) (ks := []) (by decide +kernel) rfl ?_
        refine ty_getS (b := (45, 0)) (pc := 17) (idx := 18) (ci := 9) (f := 4) (by decide +kernel) (by first | rfl | assumption) rfl (by first | exact hS.1 _ _ rfl | assumption) (by first | exact hS.2.2 _ _ _ _ rfl | assumption) ?_
        refine ty_iload_n (pc := 20) (i := 3) (ks := []) (by decide +kernel) rfl ?_
        refine ty_baload (pc := 21) (ks := []) (by decide +kernel) (by first | rfl | assumption) (by rfl) (by first | exact hS.1 _ _ rfl | assumption) (by first | exact hS.2.1 _ _ _ rfl | assumption) (by omega) (fun v hv => ?_)
        subst hv
        -- at 22: .ifCond .eq 91
        rw [hAi.2.2]
        by_cases hwt : aw i = true
        · rw [if_pos hwt]
          unfold mo_hold
          rw [if_pos hwt]
          refine ty_if_eq (pc := 22) (off := 91) (t := 113) (ks := []) (by decide +kernel) (by omega) (fun hc => ?_) (fun hc => ?_)
          · omega
          · obtain ⟨bc, hbc⟩ : ∃ bc, S.1 (13, 0) 7 = bc := ⟨_, rfl⟩
            have e0 : ty_sI S (38, 0) 5 0 = cp_s S (S.2.2.1 (40, 0)) (S.2.2.1 (41, 0)) 0 := by
              unfold cp_s
              rw [ty_mA_self, ty_mA_self]
            refine ty_aload_n (pc := 25) (i := 0) (ks := []) (by decide +kernel) rfl ?_
            refine ty_getS (b := (13, 0)) (pc := 26) (idx := 32) (ci := 9) (f := 0) (by decide +kernel) (by first | rfl | assumption) rfl (by first | exact hS.1 _ _ rfl | assumption) (by first | exact hS.2.2 _ _ _ _ rfl | assumption) ?_
            refine ty_getI (pc := 29) (idx := 40) (ci := 2) (f := 7) (by decide +kernel) (by first | rfl | assumption) rfl (by first | exact hS.1 _ _ rfl | assumption) (fun v hv => ?_)
            subst hv
            refine ty_istore (pc := 32) (i := 4) (ks := []) (ls' := [_, _, _, _, _, _]) (by decide +kernel) rfl ?_
            refine ty_aload_n (pc := 34) (i := 0) (ks := []) (by decide +kernel) rfl ?_
            refine ty_getS (b := (38, 0)) (pc := 35) (idx := 36) (ci := 9) (f := 1) (by decide +kernel) (by first | rfl | assumption) rfl (by first | exact hS.1 _ _ rfl | assumption) (by first | exact hS.2.2 _ _ _ _ rfl | assumption) ?_
            refine ty_iconst (pc := 38) (n := 0) (ks := []) (by decide +kernel) ?_
            refine ty_putI (pc := 39) (idx := 45) (ci := 8) (f := 5) (by decide +kernel) (by first | rfl | assumption) rfl rfl (by first | exact hS.1 _ _ rfl | assumption) ?_
            refine ty_aload_n (pc := 42) (i := 0) (ks := []) (by decide +kernel) rfl ?_
            refine ty_getS (b := (38, 0)) (pc := 43) (idx := 36) (ci := 9) (f := 1) (by decide +kernel) (by first | rfl | assumption) rfl (by first | exact hS.1 _ _ rfl | assumption) (by first | exact hS.2.2 _ _ _ _ rfl | assumption) ?_
            refine ty_aload_n (pc := 46) (i := 0) (ks := []) (by decide +kernel) rfl ?_
            refine ty_getS (b := (43, 0)) (pc := 47) (idx := 9) (ci := 9) (f := 2) (by decide +kernel) (by first | rfl | assumption) rfl (by first | exact hS.1 _ _ rfl | assumption) (by first | exact hS.2.2 _ _ _ _ rfl | assumption) ?_
            refine ty_iload_n (pc := 50) (i := 3) (ks := []) (by decide +kernel) rfl ?_
            refine ty_iaload (pc := 51) (ks := []) (by decide +kernel) (by first | rfl | assumption) (by rfl) (by first | exact hS.1 _ _ rfl | assumption) (by first | exact hS.2.1 _ _ _ rfl | assumption) (by omega) (fun v hv => ?_)
            first | simp (decide := true) only [ty_sI, ty_sR, ty_sA, ty_sQ, ty_mA, ty_mQ, ↓reduceIte, false_and, and_false, true_and, and_true, and_self, hne] at hv | simp (decide := true) only [ty_sI, ty_sR, ty_sA, ty_sQ, ty_mA, ty_mQ, ↓reduceIte, false_and, and_false, true_and, and_true, and_self] at hv | skip
            subst hv
            refine ty_aload_n (pc := 52) (i := 0) (ks := []) (by decide +kernel) rfl ?_
            refine ty_getS (b := (44, 0)) (pc := 53) (idx := 15) (ci := 9) (f := 3) (by decide +kernel) (by first | rfl | assumption) rfl (by first | exact hS.1 _ _ rfl | assumption) (by first | exact hS.2.2 _ _ _ _ rfl | assumption) ?_
            refine ty_iload_n (pc := 56) (i := 3) (ks := []) (by decide +kernel) rfl ?_
            refine ty_iaload (pc := 57) (ks := []) (by decide +kernel) (by first | rfl | assumption) (by rfl) (by first | exact hS.1 _ _ rfl | assumption) (by first | exact hS.2.1 _ _ _ rfl | assumption) (by omega) (fun v hv => ?_)
            first | simp (decide := true) only [ty_sI, ty_sR, ty_sA, ty_sQ, ty_mA, ty_mQ, ↓reduceIte, false_and, and_false, true_and, and_true, and_self, hne] at hv | simp (decide := true) only [ty_sI, ty_sR, ty_sA, ty_sQ, ty_mA, ty_mQ, ↓reduceIte, false_and, and_false, true_and, and_true, and_self] at hv | skip
            subst hv
            -- at 58: .invokevirtual 50
            rw [e0, hbc]
            have hl1 : (cp_s S (S.2.2.1 (40, 0)) (S.2.2.1 (41, 0)) 0).2.2.1 (43, 0) i = al i := by
              show (ty_mA (ty_mA S (40, 0) (S.2.2.1 (40, 0))) (41, 0) (S.2.2.1 (41, 0))).2.2.1 (43, 0) i = al i
              rw [ty_mA_self, ty_mA_self]
              exact hAi.1
            rw [hAi.1, hAi.2.1]
            refine ty_callv (pc := 58) (idx := 50) (m := 73) (n := 3) (c := 8) (vs := [_, _]) (r := []) (by decide +kernel) rfl rfl (Nat.le_of_ble_eq_true rfl) (by first | rfl | assumption) (by first | exact hS.1 _ _ rfl | assumption) (cp_put _ (o := 0) (by exact hS) (by exact ty_sI_at) (by omega)) ?_
            rintro _ S2 ⟨rfl, e2⟩
            have e2 : S2 = cp_s S (mo_up (S.2.2.1 (40, 0)) 0 (al i)) (mo_up (S.2.2.1 (41, 0)) 0 (ar i)) 1 := by
              rw [e2]
              exact cp_s_put
            refine ty_KV ?_
            have hstk : mo_stk (mo_up (S.2.2.1 (40, 0)) 0 (al i)) (mo_up (S.2.2.1 (41, 0)) 0 (ar i)) 1 [(al i, ar i)] := by
              have : mo_stk (S.2.2.1 (40, 0)) (S.2.2.1 (41, 0)) 0 [] := rfl
              exact mo_stk_put this
            obtain ⟨q1, q2, q3⟩ := cp_R_stk hR hstk
            have q4 := cp_tr_s hV (l := mo_up (S.2.2.1 (40, 0)) 0 (al i)) (r := mo_up (S.2.2.1 (41, 0)) 0 (ar i)) (o := 1)
            have ebc : S2.1 (13, 0) 7 = bc := by
              rw [e2, ← hbc]
              exact ty_sI_ne (by decide)
            have enc : S2.2.2.2.2.2.2.2 = S.2.2.2.2.2.2.2 := by rw [e2]; rfl
            rw [← e2] at q1 q2 q3 q4
            have hS2 := q1.1
            clear e2
            have hS := hS2
            have hpo : mo_po G made [(al i, ar i)] := by
              intro p hp
              have : p = (al i, ar i) := by simpa using hp
              rw [this]
              exact hok i h0.1 (by omega)
            refine ty_aload_n (pc := 61) (i := 0) (ks := []) (by decide +kernel) rfl ?_
            refine ty_getS (b := (38, 0)) (pc := 62) (idx := 36) (ci := 9) (f := 1) (by decide +kernel) (by first | rfl | assumption) rfl (by first | exact hS.1 _ _ rfl | assumption) (by first | exact hS.2.2 _ _ _ _ rfl | assumption) ?_
            refine ty_iconst (pc := 65) (n := 1) (ks := []) (by decide +kernel) ?_
            -- at 66: .invokevirtual 54
            have q1' : cp_R S2 B F E n G made ns sl st st ([(al i, ar i)], bd, ch, wk, false) := q1
            refine ty_callv (pc := 66) (idx := 54) (m := 85) (n := 2) (c := 8) (vs := [_]) (r := []) (by decide +kernel) rfl rfl (Nat.le_of_ble_eq_true rfl) (by first | rfl | assumption) (by first | exact hS.1 _ _ rfl | assumption) (cp_makeSame d hw hmade true (by simp) (by simp) q1' hpo hb hcw) ?_
            have hinv := mo_un_inv hw hmade (tr := true) (501 - st).toNat st [(al i, ar i)] bd ch wk false (by omega) (by omega) hpo hb hcw
            have hsteps := fun z => mo_ur_steps hw hmade (tr := true) (fl := false) ⟨hR5.2.1, hR5.2.2⟩ hpo hb hcw z
            change (_ ∧ _ ∧ _ ∧ _ ∧ _) at hinv
            have hur : mo_un G true (501 - st).toNat st ([(al i, ar i)], bd, ch, wk, false) = mo_ur G true st ([(al i, ar i)], bd, ch, wk, false) := rfl
            rw [hur] at hinv
            generalize mo_ur G true st ([(al i, ar i)], bd, ch, wk, false) = r at hinv hsteps
            obtain ⟨rc, rs, rbd, rch, rwk, rfl_⟩ := r
            obtain ⟨j1, j2, j3, j4, j5⟩ := hinv
            rintro o S3 ⟨⟨c1, c2⟩, c3⟩
            have c2 := c2 rfl
            rcases c3 with ⟨b1, rfl, b3, b4, b5, b6⟩ | ⟨b1, rfl, ⟨ps3, b3⟩, b4, b5⟩ | ⟨b1, rfl, b3⟩
            · -- they are same
              have b1 : rc = 1 := b1
              subst b1
              simp only at hsteps b3 b6 j2
              have hs1 := hsteps (by decide)
              rw [if_neg (by simp), if_pos rfl]
              refine ty_KI ?_
              obtain ⟨y1, y2, y3, y4⟩ := cp_R_test hR b3 (q2.trans c1) (q4.trans c2) (q3.trans b4) (by omega)
              rw [hbc] at y1 y2 y3 y4
              have hS := b3.1
              have hbr := b3.2.2.2.2.2.2.2.2.2.1
              have hbs := b3.2.2.2.2.1
              have hfree : ty_C L xs (d + 4) 82 [.inr (.inr (some (13, 0))), .inl (ty_J bc)] S3 (ty_oV fun S' => S' = ca_fr S3 B bc) := by
                refine cv_free (d + 3) b3.1 b3.2.1 rfl ?_ (fun q q0 q1 => ?_)
                · have := (q3.trans b4).1
                  rw [hbc] at this
                  omega
                · have := hbr.2 q (by omega) q1
                  have := b3.2.2.2.1
                  omega
              obtain ⟨z1, z2⟩ := ca_R_keep hV y2 hA (k1 := rs) (by omega)
              have tail : ∀ (wl : Int), wl = 0 ∨ wl = 1 → ty_W L xs (d + 4) 89 93 [some (.inr (.inr (some (39, 0)))), some (.inl (ty_J fr)), some (.inl (ty_J 1)), some (.inl (ty_J i)), some (.inl (ty_J bc)), some (.inl (ty_J 1))] [.inl (ty_J wl)] S3 (ca_h S B F E n G made ns sl (bd, ch, wk, fl) an al ar (if wl = 1 then mo_hold G bd ch wk al ar m rs (i + 1) aw else (0, rs, aw))) := by
                intro wl hwl
                refine ty_istore_n (pc := 93) (i := 2) (ks := []) (ls' := [_, _, _, _, _, _]) (by decide +kernel) rfl ?_
                refine ty_aload_n (pc := 94) (i := 0) (ks := []) (by decide +kernel) rfl ?_
                refine ty_getS (b := (13, 0)) (pc := 95) (idx := 32) (ci := 9) (f := 0) (by decide +kernel) (by first | rfl | assumption) rfl (by first | exact hS.1 _ _ rfl | assumption) (by first | exact hS.2.2 _ _ _ _ rfl | assumption) ?_
                refine ty_iload (pc := 98) (i := 4) (ks := []) (by decide +kernel) rfl ?_
                -- at 100: .invokevirtual 58
                refine ty_callv (pc := 100) (idx := 58) (m := 82) (n := 2) (c := 2) (vs := [_]) (r := []) (by decide +kernel) rfl rfl (Nat.le_of_ble_eq_true rfl) (by first | rfl | assumption) (by first | exact hS.1 _ _ rfl | assumption) hfree ?_
                rintro _ S4 ⟨rfl, rfl⟩
                refine ty_KV ?_
                have hS := y1.1
                refine ty_iload (pc := 103) (i := 5) (ks := []) (by decide +kernel) rfl ?_
                -- at 105: .ifCond .ne 8
                refine ty_if_ne (pc := 105) (off := 8) (t := 113) (ks := []) (by decide +kernel) (by omega) (fun hc => ?_) (fun hc => ?_)
                · refine ty_iinc (pc := 113) (i := 3) (n := 1) (ks := []) (ls' := [_, _, _, _, _, _]) (by decide +kernel) rfl rfl ?_
                  refine ty_goto (pc := 116) (off := (-112)) (t := 4) (ks := []) (by decide +kernel) ?_
                  -- at 4: .iload_n 3
                  rcases hwl with rfl | rfl
                  · rw [if_neg (by decide)]
                    have hAz := z1.1
                    refine ty_iload_n (pc := 4) (i := 3) (ks := []) (by decide +kernel) rfl ?_
                    refine ty_aload_n (pc := 5) (i := 0) (ks := []) (by decide +kernel) rfl ?_
                    refine ty_getI (pc := 6) (idx := 22) (ci := 9) (f := 5) (by decide +kernel) (by first | rfl | assumption) rfl (by first | exact hS.1 _ _ rfl | assumption) (fun v hv => ?_)
                    subst hv
                    -- at 9: .if_icmp .ge 110
                    rw [hAz.1]
                    refine ty_icmp_ge (pc := 9) (off := 110) (t := 119) (ks := []) (by decide +kernel) (by omega) (by omega) (fun hc => ?_) (fun hc => ?_)
                    · refine ty_iload_n (pc := 119) (i := 2) (ks := []) (by decide +kernel) rfl ?_
                      -- at 120: .ireturn
                      refine ty_ret_i (pc := 120) (ks := []) (ty := .boolean) (by decide +kernel) rfl (ty_fit_z (by omega)) ?_
                      exact ⟨y2.ca, .inl ⟨.inl rfl, rfl, ⟨_, y1⟩, z1, y3, z2, b5.trans enc⟩⟩
                    · refine ty_iload_n (pc := 12) (i := 2) (ks := []) (by decide +kernel) rfl ?_
                      -- at 13: .ifCond .eq 106
                      refine ty_if_eq (pc := 13) (off := 106) (t := 119) (ks := []) (by decide +kernel) (by omega) (fun hc => ?_) (fun hc => ?_)
                      · refine ty_iload_n (pc := 119) (i := 2) (ks := []) (by decide +kernel) rfl ?_
                        -- at 120: .ireturn
                        refine ty_ret_i (pc := 120) (ks := []) (ty := .boolean) (by decide +kernel) rfl (ty_fit_z (by omega)) ?_
                        exact ⟨y2.ca, .inl ⟨.inl rfl, rfl, ⟨_, y1⟩, z1, y3, z2, b5.trans enc⟩⟩
                      · omega
                  · rw [if_pos rfl]
                    refine (ih _ rs (i + 1) aw _ _ _ (by omega) (by omega) y1 z1).mono ?_
                    rintro o S' ⟨g1, g2⟩
                    refine ⟨y2.ca.trans g1, ?_⟩
                    have hnc : (ca_fr S3 B bc).2.2.2.2.2.2.2 = S.2.2.2.2.2.2.2 := b5.trans enc
                    rcases g2 with ⟨k1, k2, k3, k4, k5, k6, k7⟩ | ⟨k1, k2, k3⟩
                    · exact .inl ⟨k1, k2, k3, k4, y3.trans k5, z2.trans k6, k7.trans hnc⟩
                    · exact .inr ⟨k1, k2, by rw [k3, hnc]⟩
                · omega
              refine ty_istore (pc := 69) (i := 5) (ks := []) (ls' := [_, _, _, _, _, _]) (by decide +kernel) rfl ?_
              refine ty_iload (pc := 71) (i := 5) (ks := []) (by decide +kernel) rfl ?_
              -- at 73: .ifCond .eq 15
              refine ty_if_eq (pc := 73) (off := 15) (t := 88) (ks := []) (by decide +kernel) (by omega) (fun hc => ?_) (fun hc => ?_)
              · omega
              · refine ty_aload_n (pc := 76) (i := 0) (ks := []) (by decide +kernel) rfl ?_
                refine ty_getS (b := (13, 0)) (pc := 77) (idx := 32) (ci := 9) (f := 0) (by decide +kernel) (by first | rfl | assumption) rfl (by first | exact hS.1 _ _ rfl | assumption) (by first | exact hS.2.2 _ _ _ _ rfl | assumption) ?_
                refine ty_getI (pc := 80) (idx := 40) (ci := 2) (f := 7) (by decide +kernel) (by first | rfl | assumption) rfl (by first | exact hS.1 _ _ rfl | assumption) (fun v hv => ?_)
                subst hv
                refine ty_iload (pc := 83) (i := 4) (ks := []) (by decide +kernel) rfl ?_
                -- at 85: .if_icmp .le 7
                have b6 : rfl_ = true ↔ false = true ∨ S2.1 (13, 0) 7 < S3.1 (13, 0) 7 := b6
                rw [ebc] at b6
                have hbr1 := hbr.1
                refine ty_icmp_le (pc := 85) (off := 7) (t := 92) (ks := []) (by decide +kernel) (by omega) (by omega) (fun hc => ?_) (fun hc => ?_)
                · have hfl : ¬ rfl_ = true := fun z => by
                    rcases b6.mp z with w | w
                    · cases w
                    · omega
                  rw [if_neg hfl]
                  refine ty_iconst (pc := 92) (n := 0) (ks := []) (by decide +kernel) ?_
                  -- at 93: .istore_n 2
                  have := tail 0 (.inl rfl)
                  rw [if_neg (by decide)] at this
                  exact this
                · have hfl : rfl_ = true := b6.mpr (.inr hc)
                  rw [if_pos hfl]
                  refine ty_iconst (pc := 88) (n := 1) (ks := []) (by decide +kernel) ?_
                  refine ty_goto (pc := 89) (off := 4) (t := 93) (ks := []) (by decide +kernel) ?_
                  -- at 93: .istore_n 2
                  have := tail 1 (.inr rfl)
                  rw [if_pos rfl] at this
                  exact this
            · -- they can't be
              have b1 : rc = 0 := b1
              subst b1
              simp only at hsteps b3 j2
              have hs1 := hsteps (by decide)
              rw [if_neg (by simp), if_neg (by simp)]
              refine ty_KI ?_
              obtain ⟨y1, y2, y3, y4⟩ := cp_R_test hR b3 (q2.trans c1) (q4.trans c2) (q3.trans b4) (by omega)
              rw [hbc] at y1 y2 y3 y4
              have hbr := b3.2.2.2.2.2.2.2.2.2.1
              have hbs := b3.2.2.2.2.1
              have hfree : ty_C L xs (d + 4) 82 [.inr (.inr (some (13, 0))), .inl (ty_J bc)] S3 (ty_oV fun S' => S' = ca_fr S3 B bc) := by
                refine cv_free (d + 3) b3.1 b3.2.1 rfl ?_ (fun q q0 q1 => ?_)
                · have := (q3.trans b4).1
                  rw [hbc] at this
                  omega
                · have := hbr.2 q (by omega) q1
                  have := b3.2.2.2.1
                  omega
              obtain ⟨z1, z2⟩ := ca_R_keep hV y2 hA (k1 := rs - 1) (by omega)
              have hS := b3.1
              refine ty_istore (pc := 69) (i := 5) (ks := []) (ls' := [_, _, _, _, _, _]) (by decide +kernel) rfl ?_
              refine ty_iload (pc := 71) (i := 5) (ks := []) (by decide +kernel) rfl ?_
              -- at 73: .ifCond .eq 15
              refine ty_if_eq (pc := 73) (off := 15) (t := 88) (ks := []) (by decide +kernel) (by omega) (fun hc => ?_) (fun hc => ?_)
              · refine ty_iconst (pc := 88) (n := 1) (ks := []) (by decide +kernel) ?_
                refine ty_goto (pc := 89) (off := 4) (t := 93) (ks := []) (by decide +kernel) ?_
                refine ty_istore_n (pc := 93) (i := 2) (ks := []) (ls' := [_, _, _, _, _, _]) (by decide +kernel) rfl ?_
                refine ty_aload_n (pc := 94) (i := 0) (ks := []) (by decide +kernel) rfl ?_
                refine ty_getS (b := (13, 0)) (pc := 95) (idx := 32) (ci := 9) (f := 0) (by decide +kernel) (by first | rfl | assumption) rfl (by first | exact hS.1 _ _ rfl | assumption) (by first | exact hS.2.2 _ _ _ _ rfl | assumption) ?_
                refine ty_iload (pc := 98) (i := 4) (ks := []) (by decide +kernel) rfl ?_
                -- at 100: .invokevirtual 58
                refine ty_callv (pc := 100) (idx := 58) (m := 82) (n := 2) (c := 2) (vs := [_]) (r := []) (by decide +kernel) rfl rfl (Nat.le_of_ble_eq_true rfl) (by first | rfl | assumption) (by first | exact hS.1 _ _ rfl | assumption) hfree ?_
                rintro _ S4 ⟨rfl, rfl⟩
                refine ty_KV ?_
                have hS := y1.1
                refine ty_iload (pc := 103) (i := 5) (ks := []) (by decide +kernel) rfl ?_
                -- at 105: .ifCond .ne 8
                refine ty_if_ne (pc := 105) (off := 8) (t := 113) (ks := []) (by decide +kernel) (by omega) (fun hc => ?_) (fun hc => ?_)
                · omega
                · refine ty_aload_n (pc := 108) (i := 0) (ks := []) (by decide +kernel) rfl ?_
                  refine ty_iload_n (pc := 109) (i := 3) (ks := []) (by decide +kernel) rfl ?_
                  -- at 110: .invokevirtual 62
                  have hz1 := z1.1
                  have hz3 := z1.2.2.1
                  refine ty_callv (pc := 110) (idx := 62) (m := 90) (n := 2) (c := 9) (vs := [_]) (r := []) (by decide +kernel) rfl rfl (Nat.le_of_ble_eq_true rfl) (by first | rfl | assumption) (by first | exact hS.1 _ _ rfl | assumption) (ca_settle (d + 3) (by exact y1.1) (by omega) rfl (by omega)) ?_
                  rintro _ S5 ⟨rfl, e5⟩
                  have e5 : S5 = ca_s (ca_fr S3 B bc) i := e5
                  rw [e5]
                  refine ty_KV ?_
                  obtain ⟨p1, p2, p3, p4, p5, p6⟩ := ca_settled y1 z1 ⟨h0.1, by omega⟩ hwt
                  rw [show rs - 1 + 1 = rs by omega] at p2
                  have hS := p1.1
                  refine ty_iinc (pc := 113) (i := 3) (n := 1) (ks := []) (ls' := [_, _, _, _, _, _]) (by decide +kernel) rfl rfl ?_
                  refine ty_goto (pc := 116) (off := (-112)) (t := 4) (ks := []) (by decide +kernel) ?_
                  -- at 4: .iload_n 3
                  refine (ih _ rs (i + 1) (mo_uw aw i false) _ _ _ (by omega) (by omega) p1 p2).mono ?_
                  rintro o S' ⟨g1, g2⟩
                  refine ⟨(y2.ca.trans p5).trans g1, ?_⟩
                  have hnc : (ca_s (ca_fr S3 B bc) i).2.2.2.2.2.2.2 = S.2.2.2.2.2.2.2 := p6.trans (b5.trans enc)
                  rcases g2 with ⟨k1, k2, k3, k4, k5, k6, k7⟩ | ⟨k1, k2, k3⟩
                  · exact .inl ⟨k1, k2, k3, k4, (y3.trans p3).trans k5, (z2.trans p4).trans k6, k7.trans hnc⟩
                  · exact .inr ⟨k1, k2, by rw [k3, hnc]⟩
              · omega
            · -- too many steps
              have b1 : rc = 2 := b1
              subst b1
              rw [if_pos rfl]
              refine ty_KX (by decide +kernel) ?_
              exact ⟨(q2.trans c1).ca, .inr ⟨rfl, rfl, by rw [b3, enc]⟩⟩
        · rw [if_neg hwt]
          unfold mo_hold
          rw [if_neg hwt]
          refine ty_if_eq (pc := 22) (off := 91) (t := 113) (ks := []) (by decide +kernel) (by omega) (fun hc => ?_) (fun hc => ?_)
          · refine ty_iinc (pc := 113) (i := 3) (n := 1) (ks := []) (ls' := [_, _, _, _, _, _]) (by decide +kernel) rfl rfl ?_
            refine ty_goto (pc := 116) (off := (-112)) (t := 4) (ks := []) (by decide +kernel) ?_
            -- at 4: .iload_n 3
            exact ih S st (i + 1) aw x4 x5 ps (by omega) (by omega) hR hA
          · omega
theorem ca_hold (d : Nat) (hw : mo_wf G) (hmade : made ≤ 100000) {dn : List Int} {bd : Int → Int} {ch : Int → List Int} {wk : List Int} {fl : Bool} (hb : mo_bw G made bd) (hc : mo_cw made ns bd ch (dn ++ wk)) {an fr : Int} {al ar : Int → Int} (hok : ∀ i, 0 ≤ i → i < an → mo_ok G made (al i) ∧ mo_ok G made (ar i)) {st : Int} {aw : Int → Bool} {ps : List (Int × Int)} (h0 : 0 ≤ fr ∧ fr ≤ 1000) (hR : cp_R S B F E n G made ns sl st st (ps, bd, ch, wk, fl)) (hA : ca_R S an al ar aw st) :
    ty_C L xs (d + 5) 89 [.inr (.inr (some (39, 0))), .inl (ty_J fr)] S (ca_h S B F E n G made ns sl (bd, ch, wk, fl) an al ar (mo_hold G bd ch wk al ar (an - fr).toNat st fr aw)) := by
  refine ty_enter (ml := 6) (ls := [_, _, _, _, _, _]) rfl rfl (Nat.le_of_ble_eq_true rfl) ?_
  refine ty_iconst (pc := 0) (n := 1) (ks := []) (by decide +kernel) ?_
  refine ty_istore_n (pc := 1) (i := 2) (ks := []) (ls' := [_, _, _, _, _, _]) (by decide +kernel) rfl ?_
  refine ty_iload_n (pc := 2) (i := 1) (ks := []) (by decide +kernel) rfl ?_
  refine ty_istore_n (pc := 3) (i := 3) (ks := []) (ls' := [_, _, _, _, _, _]) (by decide +kernel) rfl ?_
  -- at 4: .iload_n 3
  exact ca_loop d hw hmade hb hc hok _ S st fr aw none none ps rfl h0 hR hA
end CAL
