/-! The first goal is begun, all kinds. -/
section CSD
variable {L : Nat} {xs : Nat → Int32} {S : ty_S}
theorem cs_F_th {S S' : ty_S} (e1 : ∀ b j, b.1 ∉ cs_so → S'.1 b j = S.1 b j) (e2 : S'.2.1 = S.2.1) (e3 : S'.2.2.1 = S.2.2.1) (e4 : S'.2.2.2.1 = S.2.2.2.1) (e5 : S'.2.2.2.2.1 = S.2.2.2.2.1) (e6 : S'.2.2.2.2.2.1 = S.2.2.2.2.2.1) (e7 : S'.2.2.2.2.2.2.1 = S.2.2.2.2.2.2.1) : cs_F S S' :=
  ⟨fun b a j => ⟨e1 b j a, by rw [e2]⟩, fun b _ => ⟨by rw [e3], fun _ => by rw [e4], by rw [e6]⟩, e5, fun s _ => by rw [e7]⟩
theorem cs_sleepOn (d : Nat) {P : mo_P} (hW : mo_PW P) {K : Nat × Nat} {th : Nat} {st came : Int} {sl al ar : Int → Int} {made : Int} {bd : Int → Int} {ch : Int → List Int} {ns : Int} {dn : List Int} {an : Int} {aw : Int → Bool} {todo : List mo_Go} {cs : List mo_Ch} {ans : Int} {x call : Int}
    (h : cs_X S P K th (st, came, sl, al, ar, (made, bd, ch, ns, dn, an, aw), todo, cs, ans) [] [] false) (htk : S.2.1 (17, 0) 13 = none) (hx : mo_isval P.1 made bd x) (hmd : made ≤ 24000) (hns : ns < 500) (hg : S.1 (13, 0) 13 < st) (hu : S.1 (17, 0) 8 + 524 ≤ 24 + 524 * st) (hcw : mo_cw made ns bd ch dn) :
    ty_C L xs (d + 8) 78 [.inr (.inr (some (17, 0))), .inl (ty_J x), .inl (ty_J call)] S (ty_oV fun S' => cs_1 S P K th (if x < 0 then (1, (st, came, mo_up sl ns call, al, ar, (made, bd, mo_upc ch (-1 - x) (ch (-1 - x) ++ [ns]), ns + 1, dn, an, aw), todo, cs, ans), [], none) else (1, (st, came, sl, al, ar, (made, bd, ch, ns, dn, an, aw), (40, call, call, 0) :: todo, cs, ans), [], none)) S') := by
  obtain ⟨B, F, E, n, D1, n1, c1, D2, n2, c2, u, W, hR⟩ := h
  have hR0 := hR
  obtain ⟨h1, h2, h3, h4, h5, h6, h7, h8, h9, h10, h11⟩ := hR
  have hS := h1.1
  have hr : -2147483648 ≤ x ∧ x ≤ 2147483647 := by
    rcases hx with z | z
    · omega
    · have := mo_ok_le hW.1 z.2.1; omega
  refine ty_enter (ml := 3) (ls := [_, _, _]) rfl rfl (Nat.le_of_ble_eq_true rfl) ?_
  refine ty_iload_n (pc := 0) (i := 1) (ks := []) (by decide +kernel) rfl ?_
  -- at 1: .ifCond .ge 17
  refine ty_if_ge (pc := 1) (off := 17) (t := 18) (ks := []) (by decide +kernel) (by omega) (fun hc => ?_) (fun hc => ?_)
  · refine ty_aload_n (pc := 18) (i := 0) (ks := []) (by decide +kernel) rfl ?_
    refine ty_bipush (pc := 19) (n := 40) (ks := []) (by decide +kernel) (by omega) ?_
    refine ty_iload_n (pc := 21) (i := 2) (ks := []) (by decide +kernel) rfl ?_
    refine ty_iload_n (pc := 22) (i := 2) (ks := []) (by decide +kernel) rfl ?_
    refine ty_iconst (pc := 23) (n := 0) (ks := []) (by decide +kernel) ?_
    -- at 24: .invokevirtual 201
    refine ty_callv (pc := 24) (idx := 201) (m := 45) (n := 5) (c := 5) (vs := [_, _, _, _]) (r := []) (by decide +kernel) rfl rfl (Nat.le_of_ble_eq_true rfl) (by first | rfl | assumption) (by first | exact hS.1 _ _ rfl | assumption) (cs_put1 d hS h4 h5.1 h5.2.1 (by omega) h6 (g := (40, call, call, 0)) (show (0 : Int) ≤ 40 ∧ (40 : Int) ≤ 65535 by decide)) ?_
    rintro _ S1 ⟨rfl, D1', n1', c1', hq⟩
    refine ty_KV ?_
    refine ty_ret_v (pc := 27) (ks := []) (by decide +kernel) rfl ?_
    refine ⟨rfl, ?_⟩
    rw [if_neg (by omega)]
    have hu' : ((u + 1 : Nat) : Int) ≤ 24 + 524 * st := by have := h5.1; omega
    refine ⟨⟨_, _, _, _, _, _, _, _, _, _, _, _, cs_R_front hR0 hq hu'⟩, ?_, hq.2.2.1.F, ?_⟩
    · show S1.2.1 (17, 0) 13 = none
      rw [hq.2.2.2.1.2 _ (by decide)]
      exact htk
    · rw [if_pos ⟨rfl, rfl⟩, hq.2.2.2.2.1.1]
      show ((u + 1 : Nat) : Int) + 0 ≤ 24 + 524 * st
      omega
  · have hv := hx.resolve_right (fun z => by omega)
    refine ty_aload_n (pc := 4) (i := 0) (ks := []) (by decide +kernel) rfl ?_
    refine ty_getS (b := (13, 0)) (pc := 5) (idx := 52) (ci := 5) (f := 1) (by decide +kernel) (by first | rfl | assumption) rfl (by first | exact hS.1 _ _ rfl | assumption) (by first | exact hS.2.2 _ _ _ _ rfl | assumption) ?_
    refine ty_iload_n (pc := 8) (i := 1) (ks := []) (by decide +kernel) rfl ?_
    refine ty_iconst (pc := 9) (n := (-1)) (ks := []) (by decide +kernel) ?_
    refine ty_inot (pc := 10) (ks := []) (by decide +kernel) ?_
    refine ty_iload_n (pc := 11) (i := 2) (ks := []) (by decide +kernel) rfl ?_
    -- at 12: .invokevirtual 198
    have hgr := h1.2.2.2.2.2.2.2.2.2.2.1.1
    have hst := h1.2.2.2.2.1
    obtain ⟨k1, k2, k3, k4⟩ := cs_R_sleep hR0 hns hg (call := call) hv.2 hcw
    have hmn := h1.2.2.2.1
    refine ty_callv (pc := 12) (idx := 198) (m := 79) (n := 3) (c := 2) (vs := [_, _]) (r := []) (by decide +kernel) rfl rfl (Nat.le_of_ble_eq_true rfl) (by first | rfl | assumption) (by first | exact hS.1 _ _ rfl | assumption) ((cv_putToSleep d hS h1.2.1 (v := -1 - x) ⟨hv.2.1, by omega⟩ rfl ⟨hgr.1, by omega⟩ h9.2.1 ⟨h1.2.2.2.2.2.2.2.2.2.2.2.1, hns⟩ ⟨k3, k4⟩).deeper (by omega)) ?_
    rintro _ S1 ⟨rfl, rfl⟩
    refine ty_KV ?_
    refine ty_goto (pc := 15) (off := 12) (t := 27) (ks := []) (by decide +kernel) ?_
    -- at 27: .return_
    refine ty_ret_v (pc := 27) (ks := []) (by decide +kernel) rfl ?_
    refine ⟨rfl, ?_⟩
    rw [if_pos (by omega)]
    refine ⟨⟨_, _, _, _, _, _, _, _, _, _, _, _, k1⟩, ?_, k2, ?_⟩
    · show (cv_ps S F E (-1 - x) call ns (S.1 (13, 0) 13)).2.1 (17, 0) 13 = none
      unfold cv_ps
      rw [cv_lk_2.1]
      exact htk
    · rw [if_pos ⟨rfl, rfl⟩, k1.2.2.2.2.1.1, ← h5.1]
      show S.1 (17, 0) 8 + 0 ≤ 24 + 524 * st
      omega
/-- what doFirst comes to -/
def cs_o (S : ty_S) (P : mo_P) (K : Nat × Nat) (th : Nat) (r : mo_R1) : ai_O → ty_S → Prop := fun o S' => ((r.1 = 0 ∨ r.1 = 1) ∧ o = .inl (some (.inl (ty_J r.1))) ∧ cs_1 S P K th r S') ∨ ((r.1 = 2 ∧ o = .inr 1 ∨ r.1 = 3 ∧ o = .inr 3) ∧ cs_I S' K (th + 1) ∧ cs_F S S')
theorem cs_doFirst (d : Nat) {P : mo_P} (hW : mo_PW P) {K : Nat × Nat} {th : Nat} {st came : Int} {sl al ar : Int → Int} {made : Int} {bd : Int → Int} {ch : Int → List Int} {ns : Int} {dn : List Int} {an : Int} {aw : Int → Bool} {todo : List mo_Go} {cs : List mo_Ch} {ans : Int} {s l r b : Int}
    (h : cs_X S P K th (st, came, sl, al, ar, (made, bd, ch, ns, dn, an, aw), (s, l, r, b) :: todo, cs, ans) [] [] false) (hI : mo_MI P (st, came, sl, al, ar, (made, bd, ch, ns, dn, an, aw), (s, l, r, b) :: todo, cs, ans)) (htk : S.2.1 (17, 0) 13 = none) {p : Option ai_A} (hp : S.2.1 (17, 0) 9 = p) :
    ty_C L xs (d + 9) 62 [.inr (.inr (some (17, 0))), .inr (.inr p)] S (cs_o S P K th (mo_first P (st, came, sl, al, ar, (made, bd, ch, ns, dn, an, aw), (s, l, r, b) :: todo, cs, ans))) := by
  have hX := h
  obtain ⟨B, F, E, n, D1, n1, c1, D2, n2, c2, u, W, hR⟩ := h
  have hR0 := hR
  obtain ⟨h1, h2, h3, h4, h5, h6, h7, h8, h9, h10, h11⟩ := hR
  obtain ⟨i, hi, hp2, ⟨g1, g2, g3, g4⟩, htd⟩ := h6
  simp only at g1 g2 g3 g4
  obtain rfl : p = some (49, i) := hp.symm.trans hp2
  obtain ⟨b1, b2, ⟨a1, a2, a3, a4, a5, a6, a7, a8⟩, b4⟩ := hI
  simp only at b1 b2 a1 a2 a3 a4 a5 a6 a7 a8 b4
  obtain ⟨c3, c4⟩ := a8 (s, l, r, b) List.mem_cons_self
  simp only at c3 c4
  have hS := h1.1
  have hst := h1.2.2.2.2.1
  have hun := h5.2.1
  refine ty_enter (ml := 2) (ls := [_, _]) rfl rfl (Nat.le_of_ble_eq_true rfl) ?_
  refine ty_aload_n (pc := 0) (i := 0) (ks := []) (by decide +kernel) rfl ?_
  refine ty_getS (b := (37, 0)) (pc := 1) (idx := 56) (ci := 5) (f := 2) (by decide +kernel) (by first | rfl | assumption) rfl (by first | exact hS.1 _ _ rfl | assumption) (by first | exact hS.2.2 _ _ _ _ rfl | assumption) ?_
  -- at 4: .invokevirtual 138
  refine ty_callv (pc := 4) (idx := 138) (m := 63) (n := 1) (c := 7) (vs := []) (r := []) (by decide +kernel) rfl rfl (Nat.le_of_ble_eq_true rfl) (by first | rfl | assumption) (by first | exact hS.1 _ _ rfl | assumption) (ct_takeOne _ hS hst.1 hst.2) ?_
  rintro o S1 (⟨rfl, hlt, hS1⟩ | ⟨x, rfl, hge, rfl, rfl⟩)
  rotate_left
  · refine ty_KX (by decide +kernel) ?_
    unfold mo_first
    dsimp only
    rw [if_pos hge]
    exact .inr ⟨.inl ⟨rfl, rfl⟩, cs_I_th hR0.I rfl (fun _ _ _ => rfl) rfl rfl rfl rfl, cs_F_th (fun _ _ _ => rfl) rfl rfl rfl rfl rfl rfl⟩
  refine ty_KV ?_
  have hR1 := cs_R_step hR0 hlt
  have nI : ∀ b j, b ≠ (37, 0) → S1.1 b j = S.1 b j := fun b j hb => by rw [hS1]; exact if_neg (fun w => hb w.1)
  have e2 : S1.2 = S.2 := by rw [hS1]; rfl
  rw [← hS1] at hR1
  have hF1 : cs_F S S1 := ⟨fun b a j => ⟨nI b j (cs_F_fst (cs_F_ne a rfl)), by rw [e2]⟩, fun b _ => by rw [e2]; exact ⟨rfl, fun _ => rfl, rfl⟩, by rw [e2], fun s _ => by rw [e2]⟩
  clear hS1
  have hpr : ((49, i) : ai_A).2 < S1.2.2.2.2.2.2.1 ((49, i) : ai_A).1 := by
    show i < S1.2.2.2.2.2.2.1 49
    rw [e2, h4.2.2.1]
    omega
  have hsk : ty_sk ((49, i) : ai_A).1 = (1, 11) := by
    show ty_sk 49 = (1, 11)
    decide +kernel
  have hS0 := hS
  have hS : ty_st S1 := hR1.1.1
  refine ty_aload_n (pc := 7) (i := 0) (ks := []) (by decide +kernel) rfl ?_
  refine ty_aload_n (pc := 8) (i := 1) (ks := []) (by decide +kernel) rfl ?_
  first | refine ty_getS (pc := 9) (idx := 141) (ci := 11) (f := 4) (by decide +kernel) (by first | rfl | assumption) rfl (by first | exact hS.1 _ _ rfl | assumption) (by assumption) ?_ | (refine ty_getR (pc := 9) (idx := 141) (ci := 11) (f := 4) (by decide +kernel) (by first | rfl | assumption) rfl (by first | exact hS.1 _ _ rfl | assumption) (fun v hv => ?_); (subst hv))
  refine ty_putR (pc := 12) (idx := 86) (ci := 5) (f := 9) (by decide +kernel) (by first | rfl | assumption) rfl rfl (by first | exact hS.1 _ _ rfl | assumption) ?_
  -- at 15: .aload_n 1
  generalize hT : ty_sR S1 (17, 0) 9 (S1.2.1 (49, i) 4) = T
  have t1 : T.1 = S1.1 := by rw [← hT]; rfl
  have t3 : T.2.2 = S1.2.2 := by rw [← hT]; rfl
  have tR : ∀ b j, T.2.1 b j = if b = (17, 0) ∧ j = 9 then S.2.1 (49, i) 4 else S.2.1 b j := fun b j => by rw [← hT, ← e2]; rfl
  have hST : ty_st T := by rw [← hT]; exact ty_st.sR (by decide +kernel) hS
  clear hT
  have tN : ∀ b j, b ≠ (17, 0) → T.2.1 b j = S.2.1 b j := fun b j hb => by rw [tR, if_neg (fun w => hb w.1)]
  have tS : ∀ j, j ≠ 9 → T.2.1 (17, 0) j = S.2.1 (17, 0) j := fun j hj => by rw [tR, if_neg (fun w => hj w.2)]
  have tI : ∀ b j, b ≠ (37, 0) → T.1 b j = S.1 b j := fun b j hb => by rw [t1, nI b j hb]
  have hRT : cs_R T P K th (st + 1, came, sl, al, ar, (made, bd, ch, ns, dn, an, aw), todo, cs, ans) [] [] false B F E n D1 n1 c1 D2 n2 c2 u W := by
    have hR1' := hR1
    obtain ⟨-, -, -, -, k5, -, k7, k8, k9, -, -⟩ := hR1'
    refine cs_R_gen (S' := T) hR1 hST t3 (fun b j _ _ => by rw [t1]) (fun b j hb => by rw [tN b j hb, e2]) (by rw [tS _ (by decide), e2]) (by rw [t1]) (by rw [t1]; exact k9.2.2) (by rw [t1]; exact k5) ?_ (by rw [t1]; exact k7) ?_
    · rw [tR, if_pos ⟨rfl, rfl⟩]
      refine cs_td_mono (cs_td_eq (fun q _ j => ⟨?_, ?_⟩) htd) (by omega)
      · rw [tI _ _ (by simp)]
      · rw [tN _ _ (by simp)]
    · exact cs_ck_keep cs _ _ k8 ⟨Int.le_refl _, Int.le_refl _, Int.le_refl _, Nat.le_refl _, Int.le_refl _, Int.le_refl _, Int.le_refl _⟩ (fun q _ j => ⟨by rw [t1], by rw [tN _ _ (by simp), e2]⟩) (fun q _ j => ⟨by rw [t1], by rw [tN _ _ (by simp), e2]⟩) (fun _ _ _ _ _ _ _ _ _ _ _ _ _ z => z)
  have hFT : cs_F S T := hF1.trans (cs_F_own t3 (fun b j _ => by rw [t1]) (fun b j hb => by rw [tN b j hb, e2]))
  have hXT : cs_X T P K th (st + 1, came, sl, al, ar, (made, bd, ch, ns, dn, an, aw), todo, cs, ans) [] [] false := ⟨B, F, E, n, D1, n1, c1, D2, n2, c2, u, W, hRT⟩
  have htkT : T.2.1 (17, 0) 13 = none := by rw [tS _ (by decide)]; exact htk
  have huT : T.1 (17, 0) 8 + 524 ≤ 24 + 524 * (st + 1) := by
    rw [tI _ _ (by decide), h5.1]
    have := h5.2.2.1
    omega
  have hgT : T.1 (13, 0) 13 < st + 1 := by
    rw [tI _ _ (by decide)]
    have := h1.2.2.2.2.2.2.2.2.2.2.1.1.2
    omega
  have G1 : T.1 (49, i) 0 = s := by rw [tI _ _ (by simp)]; exact g1
  have G2 : T.1 (49, i) 1 = l := by rw [tI _ _ (by simp)]; exact g2
  have G3 : T.1 (49, i) 2 = r := by rw [tI _ _ (by simp)]; exact g3
  have G4 : T.1 (49, i) 3 = b := by rw [tI _ _ (by simp)]; exact g4
  have hprT : ((49, i) : ai_A).2 < T.2.2.2.2.2.2.1 ((49, i) : ai_A).1 := by rw [t3]; exact hpr
  have one : ∀ {S' : ty_S} {c : Int} {M : mo_M}, cs_X S' P K th M [] [] false → S'.2.1 (17, 0) 13 = none → cs_F T S' → S'.1 (17, 0) 8 ≤ 24 + 524 * M.1 → cs_1 S P K th (c, M, [], none) S' := fun x1 x2 x3 x4 => ⟨x1, x2, hFT.trans x3, by rw [if_pos ⟨rfl, rfl⟩, Int.add_zero]; exact x4⟩
  have he0 : ¬ 500 ≤ st := by omega
  clear hpr hR1 hR0 hX hF1 t1 t3 tR nI e2 h8 h4 h3 htd hp2 hp
  have hS := hST
  unfold mo_first
  dsimp only
  rw [if_neg he0]
  refine ty_aload_n (pc := 15) (i := 1) (ks := []) (by decide +kernel) rfl ?_
  refine ty_getI (pc := 16) (idx := 146) (ci := 11) (f := 0) (by decide +kernel) (by first | rfl | assumption) rfl (by first | exact hS.1 _ _ rfl | assumption) (fun v hv => ?_)
  subst hv
  -- at 19: .lookupswitch 136 #[(33, 49), (40, 66), (60, 109), (61, 75), (126, 92)]
  rw [G1]
  rcases c3 with hs | ⟨hs, okl, okr⟩
  · subst hs
    rw [if_pos rfl]
    refine ty_jmp (pc := 19) (ins := .lookupswitch 136 #[(33, 49), (40, 66), (60, 109), (61, 75), (126, 92)]) (ks := [155, 68, 85, 128, 94, 111]) (pc' := 68) (st' := []) (by decide +kernel) (by rfl) ?_
    have hccT := hRT.2.2.2.2.2.2.1.1
    rw [← G4] at c4
    refine ty_aload_n (pc := 68) (i := 0) (ks := []) (by decide +kernel) rfl ?_
    refine ty_aload_n (pc := 69) (i := 0) (ks := []) (by decide +kernel) rfl ?_
    refine ty_getI (pc := 70) (idx := 28) (ci := 5) (f := 11) (by decide +kernel) (by first | rfl | assumption) rfl (by first | exact hS.1 _ _ rfl | assumption) (fun v hv => ?_)
    subst hv
    refine ty_aload_n (pc := 73) (i := 1) (ks := []) (by decide +kernel) rfl ?_
    refine ty_getI (pc := 74) (idx := 150) (ci := 11) (f := 3) (by decide +kernel) (by first | rfl | assumption) rfl (by first | exact hS.1 _ _ rfl | assumption) (fun v hv => ?_)
    subst hv
    refine ty_min (pc := 77) (ins := .invokestatic 153) (ks := []) (by decide +kernel) (by omega) (by omega) (Nat.le_of_ble_eq_true rfl) (fun z hz => ?_)
    -- at 80: .putfield 28
    rw [hccT, G4] at hz
    have hk : z = ((cs.drop (cs.length - b.toNat)).length : Int) := by
      rw [List.length_drop, ← hz]
      rw [G4] at c4
      split <;> omega
    refine ty_putI (pc := 80) (idx := 28) (ci := 5) (f := 11) (by decide +kernel) (by first | rfl | assumption) rfl rfl (by first | exact hS.1 _ _ rfl | assumption) ?_
    refine ty_iconst (pc := 83) (n := 1) (ks := []) (by decide +kernel) ?_
    -- at 84: .ireturn
    refine ty_ret_i (pc := 84) (ks := []) (ty := .boolean) (by decide +kernel) rfl (ty_fit_z (by omega)) ?_
    have hRc := cs_R_cut hRT (cs.length - b.toNat) hk
    refine .inl ⟨.inr rfl, rfl, one ⟨_, _, _, _, _, _, _, _, _, _, _, _, hRc⟩ htkT (cs_F_own rfl (fun b j hb => if_neg (fun w => hb w.1)) (fun _ _ _ => rfl)) ?_⟩
    rw [ty_sI_ne (by decide)]
    show _ ≤ 24 + 524 * (st + 1)
    omega
  · have n33 : s ≠ 33 := by omega
    rw [if_neg n33]
    rcases hs with hs | hs | hs | hs | hs
    · subst hs
      rw [if_pos rfl]
      refine ty_jmp (pc := 19) (ins := .lookupswitch 136 #[(33, 49), (40, 66), (60, 109), (61, 75), (126, 92)]) (ks := [155, 68, 85, 128, 94, 111]) (pc' := 85) (st' := []) (by decide +kernel) (by rfl) ?_
      refine ty_aload_n (pc := 85) (i := 0) (ks := []) (by decide +kernel) rfl ?_
      refine ty_aload_n (pc := 86) (i := 1) (ks := []) (by decide +kernel) rfl ?_
      refine ty_getI (pc := 87) (idx := 159) (ci := 11) (f := 1) (by decide +kernel) (by first | rfl | assumption) rfl (by first | exact hS.1 _ _ rfl | assumption) (fun v hv => ?_)
      subst hv
      -- at 90: .invokevirtual 162
      rw [G2]
      refine ty_callv (pc := 90) (idx := 162) (m := 64) (n := 2) (c := 5) (vs := [_]) (r := []) (by decide +kernel) rfl rfl (Nat.le_of_ble_eq_true rfl) (by first | rfl | assumption) (by first | exact hS.1 _ _ rfl | assumption) (cs_beginCall d hW hXT htkT okl ⟨a1, by omega⟩ (by omega) huT a3) ?_
      rintro _ S3 ⟨z, rfl, ⟨rfl, hn, rfl⟩ | ⟨rfl, hn, h⟩⟩
      · refine ty_KI ?_
        refine ty_ret_i (pc := 93) (ks := []) (ty := .boolean) (by decide +kernel) rfl (ty_fit_z (by omega)) ?_
        rw [if_pos hn]
        refine .inl ⟨.inl rfl, rfl, one hXT htkT cs_F.refl ?_⟩
        show _ ≤ 24 + 524 * (st + 1)
        omega
      · refine ty_KI ?_
        refine ty_ret_i (pc := 93) (ks := []) (ty := .boolean) (by decide +kernel) rfl (ty_fit_z (by omega)) ?_
        rw [if_neg hn]
        exact .inl ⟨.inr rfl, rfl, h.1, h.2.1, hFT.trans h.2.2.1, h.2.2.2⟩
    · subst hs
      rw [if_neg (by decide), if_pos rfl]
      refine ty_jmp (pc := 19) (ins := .lookupswitch 136 #[(33, 49), (40, 66), (60, 109), (61, 75), (126, 92)]) (ks := [155, 68, 85, 128, 94, 111]) (pc' := 94) (st' := []) (by decide +kernel) (by rfl) ?_
      refine ty_aload_n (pc := 94) (i := 0) (ks := []) (by decide +kernel) rfl ?_
      refine ty_getS (b := (38, 0)) (pc := 95) (idx := 60) (ci := 5) (f := 3) (by decide +kernel) (by first | rfl | assumption) rfl (by first | exact hS.1 _ _ rfl | assumption) (by first | exact hS.2.2 _ _ _ _ rfl | assumption) ?_
      refine ty_aload_n (pc := 98) (i := 1) (ks := []) (by decide +kernel) rfl ?_
      refine ty_getI (pc := 99) (idx := 159) (ci := 11) (f := 1) (by decide +kernel) (by first | rfl | assumption) rfl (by first | exact hS.1 _ _ rfl | assumption) (fun v hv => ?_)
      subst hv
      refine ty_aload_n (pc := 102) (i := 1) (ks := []) (by decide +kernel) rfl ?_
      refine ty_getI (pc := 103) (idx := 165) (ci := 11) (f := 2) (by decide +kernel) (by first | rfl | assumption) rfl (by first | exact hS.1 _ _ rfl | assumption) (fun v hv => ?_)
      subst hv
      -- at 106: .invokevirtual 168
      rw [G2, G3]
      have hst0 := hRT.1.2.2.2.2.2.1
      simp only at hst0
      have ho : T.1 (38, 0) 5 = 0 := mo_stk_len hst0
      rw [ho] at hst0
      refine ty_callv (pc := 106) (idx := 168) (m := 73) (n := 3) (c := 8) (vs := [_, _]) (r := []) (by decide +kernel) rfl rfl (Nat.le_of_ble_eq_true rfl) (by first | rfl | assumption) (by first | exact hS.1 _ _ rfl | assumption) ((cp_put (d + 7) hS ho (by decide)).deeper (by omega)) ?_
      rintro _ S3 ⟨rfl, hS3⟩
      refine ty_KV ?_
      have es := cp_s_put (S := T) (l := T.2.2.1 (40, 0)) (r := T.2.2.1 (41, 0)) (o := 0) (x := l) (y := r)
      have es0 := cp_s_self (S := T)
      rw [ho] at es0
      rw [es0, ← hS3] at es
      have hk := mo_stk_put (x := l) (y := r) hst0
      have hRs := cp_R_stk hRT.1 hk
      rw [← es] at hRs
      refine ty_iconst (pc := 109) (n := 1) (ks := []) (by decide +kernel) ?_
      -- at 110: .ireturn
      refine ty_ret_i (pc := 110) (ks := []) (ty := .boolean) (by decide +kernel) rfl (ty_fit_z (by omega)) ?_
      have oI : ∀ b j, b ≠ (38, 0) → S3.1 b j = T.1 b j := fun b j hb => by rw [es]; exact if_neg (fun w => hb w.1)
      refine .inl ⟨.inr rfl, rfl, ⟨_, _, _, _, _, _, _, _, _, _, _, _, cs_R_pairs hRT hRs.1 (by rw [es]; rfl) (by rw [es]; rfl) oI (fun b h1 h2 => by
        rw [es]
        show (if b = (41, 0) then _ else if b = (40, 0) then _ else T.2.2.1 b) = T.2.2.1 b
        rw [if_neg h2, if_neg h1])⟩, ?_, hFT.trans (hRs.2.1.ca.F hRT.1.2.1), ?_⟩
      · show S3.2.1 (17, 0) 13 = none
        rw [es]
        exact htkT
      · rw [if_neg (fun w => (nomatch w.1)), oI _ _ (by decide)]
        exact huT
    · subst hs
      rw [if_neg (by decide), if_neg (by decide), if_pos rfl]
      refine ty_jmp (pc := 19) (ins := .lookupswitch 136 #[(33, 49), (40, 66), (60, 109), (61, 75), (126, 92)]) (ks := [155, 68, 85, 128, 94, 111]) (pc' := 111) (st' := []) (by decide +kernel) (by rfl) ?_
      refine ty_aload_n (pc := 111) (i := 0) (ks := []) (by decide +kernel) rfl ?_
      refine ty_getS (b := (39, 0)) (pc := 112) (idx := 69) (ci := 5) (f := 4) (by decide +kernel) (by first | rfl | assumption) rfl (by first | exact hS.1 _ _ rfl | assumption) (by first | exact hS.2.2 _ _ _ _ rfl | assumption) ?_
      refine ty_aload_n (pc := 115) (i := 1) (ks := []) (by decide +kernel) rfl ?_
      refine ty_getI (pc := 116) (idx := 159) (ci := 11) (f := 1) (by decide +kernel) (by first | rfl | assumption) rfl (by first | exact hS.1 _ _ rfl | assumption) (fun v hv => ?_)
      subst hv
      refine ty_aload_n (pc := 119) (i := 1) (ks := []) (by decide +kernel) rfl ?_
      refine ty_getI (pc := 120) (idx := 165) (ci := 11) (f := 2) (by decide +kernel) (by first | rfl | assumption) rfl (by first | exact hS.1 _ _ rfl | assumption) (fun v hv => ?_)
      subst hv
      -- at 123: .invokevirtual 172
      rw [G2, G3]
      have hanT := hRT.2.1.1
      refine ty_callv (pc := 123) (idx := 172) (m := 74) (n := 3) (c := 9) (vs := [_, _]) (r := []) (by decide +kernel) rfl rfl (Nat.le_of_ble_eq_true rfl) (by first | rfl | assumption) (by first | exact hS.1 _ _ rfl | assumption) ((ca_putNewest (d + 7) hS hanT.1 ⟨hanT.2.1, by omega⟩).deeper (by omega)) ?_
      rintro _ S3 ⟨rfl, rfl⟩
      refine ty_KV ?_
      refine ty_iconst (pc := 126) (n := 1) (ks := []) (by decide +kernel) ?_
      -- at 127: .ireturn
      refine ty_ret_i (pc := 127) (ks := []) (ty := .boolean) (by decide +kernel) rfl (ty_fit_z (by omega)) ?_
      have hRa := cs_R_apart hRT (x := l) (y := r) (by omega)
      refine .inl ⟨.inr rfl, rfl, one ⟨_, _, _, _, _, _, _, _, _, _, _, _, hRa⟩ htkT ⟨fun b a j => ⟨if_neg (fun w => cs_F_fst (cs_F_ne a rfl) w.1), rfl⟩, fun b a => ⟨?_, fun _ => rfl, rfl⟩, rfl, fun _ _ => rfl⟩ ?_⟩
      · funext j
        show (if b = (45, 0) ∧ j = an then 1 else if b = (44, 0) ∧ j = an then r else if b = (43, 0) ∧ j = an then l else T.2.2.1 b j) = T.2.2.1 b j
        rw [if_neg (fun w => cs_F_fst (cs_F_ne a rfl) w.1), if_neg (fun w => cs_F_fst (cs_F_ne a rfl) w.1), if_neg (fun w => cs_F_fst (cs_F_ne a rfl) w.1)]
      · rw [hRa.2.2.2.2.1.1, ← hRT.2.2.2.2.1.1]
        show _ ≤ 24 + 524 * (st + 1)
        omega
    · subst hs
      rw [if_neg (by decide), if_neg (by decide), if_neg (by decide), if_pos rfl]
      have vl := mo_val_isval hW.1 a2 (.inl okl)
      have vr := mo_val_isval hW.1 a2 (.inl okr)
      refine ty_jmp (pc := 19) (ins := .lookupswitch 136 #[(33, 49), (40, 66), (60, 109), (61, 75), (126, 92)]) (ks := [155, 68, 85, 128, 94, 111]) (pc' := 128) (st' := []) (by decide +kernel) (by rfl) ?_
      refine ty_aload_n (pc := 128) (i := 0) (ks := []) (by decide +kernel) rfl ?_
      refine ty_aload_n (pc := 129) (i := 0) (ks := []) (by decide +kernel) rfl ?_
      refine ty_getS (b := (13, 0)) (pc := 130) (idx := 52) (ci := 5) (f := 1) (by decide +kernel) (by first | rfl | assumption) rfl (by first | exact hS.1 _ _ rfl | assumption) (by first | exact hS.2.2 _ _ _ _ rfl | assumption) ?_
      refine ty_aload_n (pc := 133) (i := 1) (ks := []) (by decide +kernel) rfl ?_
      refine ty_getI (pc := 134) (idx := 159) (ci := 11) (f := 1) (by decide +kernel) (by first | rfl | assumption) rfl (by first | exact hS.1 _ _ rfl | assumption) (fun v hv => ?_)
      subst hv
      -- at 137: .invokevirtual 175
      rw [G2]
      refine ty_callv (pc := 137) (idx := 175) (m := 75) (n := 2) (c := 2) (vs := [_]) (r := [_]) (by decide +kernel) rfl rfl (Nat.le_of_ble_eq_true rfl) (by first | rfl | assumption) (by first | exact hS.1 _ _ rfl | assumption) ((cv_value (d + 6) hRT.1 hW.1 a2 (.inl okl)).deeper (by omega)) ?_
      rintro _ S3 ⟨z, rfl, rfl, rfl⟩
      refine ty_KI ?_
      refine ty_aload_n (pc := 140) (i := 0) (ks := []) (by decide +kernel) rfl ?_
      refine ty_getS (b := (13, 0)) (pc := 141) (idx := 52) (ci := 5) (f := 1) (by decide +kernel) (by first | rfl | assumption) rfl (by first | exact hS.1 _ _ rfl | assumption) (by first | exact hS.2.2 _ _ _ _ rfl | assumption) ?_
      refine ty_aload_n (pc := 144) (i := 1) (ks := []) (by decide +kernel) rfl ?_
      refine ty_getI (pc := 145) (idx := 165) (ci := 11) (f := 2) (by decide +kernel) (by first | rfl | assumption) rfl (by first | exact hS.1 _ _ rfl | assumption) (fun v hv => ?_)
      subst hv
      -- at 148: .invokevirtual 175
      rw [G3]
      refine ty_callv (pc := 148) (idx := 175) (m := 75) (n := 2) (c := 2) (vs := [_]) (r := [_, _]) (by decide +kernel) rfl rfl (Nat.le_of_ble_eq_true rfl) (by first | rfl | assumption) (by first | exact hS.1 _ _ rfl | assumption) ((cv_value (d + 6) hRT.1 hW.1 a2 (.inl okr)).deeper (by omega)) ?_
      rintro _ S4 ⟨z, rfl, rfl, rfl⟩
      refine ty_KI ?_
      have okv : ∀ x, mo_isval P.1 made bd x → (0 ≤ x → mo_ok P.1 made x) ∧ -2147483648 ≤ x := fun x hx => by
        rcases hx with z | z
        · exact ⟨fun y => by omega, by omega⟩
        · exact ⟨fun _ => z.2.1, by omega⟩
      refine ty_callv (pc := 151) (idx := 178) (m := 77) (n := 3) (c := 5) (vs := [_, _]) (r := []) (by decide +kernel) rfl rfl (Nat.le_of_ble_eq_true rfl) (by first | rfl | assumption) (by first | exact hS.1 _ _ rfl | assumption) ((cs_isLess (d + 6) hS hRT.1.2.2.1 hW.1 (okv _ vl).1 (okv _ vr).1 (okv _ vl).2 (okv _ vr).2 (by omega)).deeper (by omega)) ?_
      rintro o S5 (⟨z, rfl, hd, hz, rfl⟩ | ⟨x, rfl, hd, rfl, rfl⟩)
      · refine ty_KI ?_
        have zr : 0 ≤ z ∧ z ≤ 1 := by rw [hz]; split <;> omega
        refine ty_ret_i (pc := 154) (ks := []) (ty := .boolean) (by decide +kernel) rfl (ty_fit_z (by omega)) ?_
        rw [if_pos hd, ← hz]
        refine .inl ⟨show z = 0 ∨ z = 1 by omega, rfl, one hXT htkT cs_F.refl ?_⟩
        show _ ≤ 24 + 524 * (st + 1)
        omega
      · refine ty_KX (by decide +kernel) ?_
        rw [if_neg hd]
        exact .inr ⟨.inr ⟨rfl, rfl⟩, cs_I_th hRT.I rfl (fun _ _ _ => rfl) rfl rfl rfl rfl, hFT.trans (cs_F_th (fun _ _ _ => rfl) rfl rfl rfl rfl rfl rfl)⟩
    · subst hs
      rw [if_neg (by decide), if_neg (by decide), if_neg (by decide), if_neg (by decide)]
      have vl := mo_val_isval hW.1 a2 (.inl okl)
      refine ty_jmp (pc := 19) (ins := .lookupswitch 136 #[(33, 49), (40, 66), (60, 109), (61, 75), (126, 92)]) (ks := [155, 68, 85, 128, 94, 111]) (pc' := 155) (st' := []) (by decide +kernel) (by rfl) ?_
      refine ty_aload_n (pc := 155) (i := 0) (ks := []) (by decide +kernel) rfl ?_
      refine ty_aload_n (pc := 156) (i := 0) (ks := []) (by decide +kernel) rfl ?_
      refine ty_getS (b := (13, 0)) (pc := 157) (idx := 52) (ci := 5) (f := 1) (by decide +kernel) (by first | rfl | assumption) rfl (by first | exact hS.1 _ _ rfl | assumption) (by first | exact hS.2.2 _ _ _ _ rfl | assumption) ?_
      refine ty_aload_n (pc := 160) (i := 1) (ks := []) (by decide +kernel) rfl ?_
      refine ty_getI (pc := 161) (idx := 159) (ci := 11) (f := 1) (by decide +kernel) (by first | rfl | assumption) rfl (by first | exact hS.1 _ _ rfl | assumption) (fun v hv => ?_)
      subst hv
      -- at 164: .invokevirtual 175
      rw [G2]
      refine ty_callv (pc := 164) (idx := 175) (m := 75) (n := 2) (c := 2) (vs := [_]) (r := [_]) (by decide +kernel) rfl rfl (Nat.le_of_ble_eq_true rfl) (by first | rfl | assumption) (by first | exact hS.1 _ _ rfl | assumption) ((cv_value (d + 6) hRT.1 hW.1 a2 (.inl okl)).deeper (by omega)) ?_
      rintro _ S3 ⟨z, rfl, rfl, rfl⟩
      refine ty_KI ?_
      refine ty_aload_n (pc := 167) (i := 1) (ks := []) (by decide +kernel) rfl ?_
      refine ty_getI (pc := 168) (idx := 165) (ci := 11) (f := 2) (by decide +kernel) (by first | rfl | assumption) rfl (by first | exact hS.1 _ _ rfl | assumption) (fun v hv => ?_)
      subst hv
      -- at 171: .invokevirtual 182
      rw [G3]
      refine ty_callv (pc := 171) (idx := 182) (m := 78) (n := 3) (c := 5) (vs := [_, _]) (r := []) (by decide +kernel) rfl rfl (Nat.le_of_ble_eq_true rfl) (by first | rfl | assumption) (by first | exact hS.1 _ _ rfl | assumption) (cs_sleepOn d hW hXT htkT vl (by omega) (by omega) hgT huT a3) ?_
      rintro _ S4 ⟨rfl, h⟩
      refine ty_KV ?_
      refine ty_iconst (pc := 174) (n := 1) (ks := []) (by decide +kernel) ?_
      -- at 175: .ireturn
      refine ty_ret_i (pc := 175) (ks := []) (ty := .boolean) (by decide +kernel) rfl (ty_fit_z (by omega)) ?_
      by_cases e : mo_val P.1 bd l < 0
      · rw [if_pos e] at h ⊢
        exact .inl ⟨.inr rfl, rfl, h.1, h.2.1, hFT.trans h.2.2.1, h.2.2.2⟩
      · rw [if_neg e] at h ⊢
        exact .inl ⟨.inr rfl, rfl, h.1, h.2.1, hFT.trans h.2.2.1, h.2.2.2⟩
end CSD
