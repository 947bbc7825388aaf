/-! Steps of the search in all its rows. -/
/-- what stays for the next question -/
def cs_I (S : ty_S) (K : Nat × Nat) (th : Nat) : Prop := ∃ B F E n D1 n1 c1 D2 n2 c2, ty_st S ∧ cv_sh S B F E n ∧ cs_L S D1 n1 c1 D2 n2 c2 ∧ n1 ≤ 262024 ∧ n2 ≤ 500 ∧ cs_k S K n1 c1 n2 c2 n th ∧ 128 ≤ n ∧ n ≤ 50000
theorem cs_R.I {S : ty_S} {P : mo_P} {K : Nat × Nat} {th : Nat} {M : mo_M} {ps : List (Int × Int)} {wk : List Int} {fl : Bool} {B F E : ai_A} {n : Nat} {D1 : ai_A} {n1 c1 : Nat} {D2 : ai_A} {n2 c2 u W : Nat} (h : cs_R S P K th M ps wk fl B F E n D1 n1 c1 D2 n2 c2 u W) : cs_I S K th := by
  obtain ⟨st, came, sl, al, ar, ⟨made, bd, ch, ns, dn, an, aw⟩, todo, cs, ans⟩ := M
  obtain ⟨h1, h2, h3, h4, h5, h6, h7, h8, h9, h10, h11⟩ := h
  exact ⟨B, F, E, n, D1, n1, c1, D2, n2, c2, h1.1, h1.2.1, h4, h5.2.2.2.1, h7.2.2.2, h10, h11⟩
theorem cs_X.I {S : ty_S} {P : mo_P} {K : Nat × Nat} {th : Nat} {M : mo_M} {ps : List (Int × Int)} {wk : List Int} {fl : Bool} (h : cs_X S P K th M ps wk fl) : cs_I S K th := by
  obtain ⟨B, F, E, n, D1, n1, c1, D2, n2, c2, u, W, hR⟩ := h
  exact hR.I
/-- ints of the search, then a throw -/
theorem cs_I_th {S S' : ty_S} {K : Nat × Nat} {th : Nat} (h : cs_I S K th) (e2 : S'.2.1 = S.2.1) (eI : ∀ b j, b = (35, 0) ∨ b = (36, 0) → S'.1 b j = S.1 b j) (e4 : S'.2.2.2.1 = S.2.2.2.1) (e6 : S'.2.2.2.2.2.1 = S.2.2.2.2.2.1) (e7 : S'.2.2.2.2.2.2.1 = S.2.2.2.2.2.2.1) (ek : S'.2.2.2.2.2.2.2 = (S.2.2.2.2.2.2.2.1 + 1, S.2.2.2.2.2.2.2.2 + 6)) : cs_I S' K (th + 1) := by
  obtain ⟨B, F, E, n, D1, n1, c1, D2, n2, c2, h1, h2, h3, h4, h5, h6, h7⟩ := h
  refine ⟨B, F, E, n, D1, n1, c1, D2, n2, c2, ⟨by rw [e7]; exact h1.1, by rw [e6]; exact h1.2.1, by rw [e2]; exact h1.2.2⟩, ?_, ⟨?_, ?_, by rw [e7]; exact h3.2.2.1, by rw [e7]; exact h3.2.2.2.1, h3.2.2.2.2⟩, h4, h5, ?_, h7⟩
  · unfold cv_sh
    rw [e2, e6, e7]
    exact h2
  · exact jd_al_keep h3.1 (eI _ _ (.inl rfl)) (by rw [e2]) (fun _ => by rw [e4, e6]; exact ⟨rfl, rfl⟩) (fun s => by rw [e7]; exact Nat.le_refl _)
  · exact jd_al_keep h3.2.1 (eI _ _ (.inr rfl)) (by rw [e2]) (fun _ => by rw [e4, e6]; exact ⟨rfl, rfl⟩) (fun s => by rw [e7]; exact Nat.le_refl _)
  · unfold cs_k at h6 ⊢
    rw [ek]
    simp only
    omega
/-- the variables', pairs' and aparts' rows change -/
theorem cs_R_v {S S' : ty_S} {P : mo_P} {K : Nat × Nat} {th : Nat} {st came : Int} {sl al ar : Int → Int} {made : Int} {bd : Int → Int} {ch : Int → List Int} {ns : Int} {dn : List Int} {an : Int} {aw : Int → Bool} {todo : List mo_Go} {cs : List mo_Ch} {ans : Int} {ps : List (Int × Int)} {wk : List Int} {fl : Bool} {B F E : ai_A} {n : Nat} {D1 : ai_A} {n1 c1 : Nat} {D2 : ai_A} {n2 c2 u W : Nat}
    (h : cs_R S P K th (st, came, sl, al, ar, (made, bd, ch, ns, dn, an, aw), todo, cs, ans) ps wk fl B F E n D1 n1 c1 D2 n2 c2 u W) {st' ns' an' : Int} {sl' al' ar' : Int → Int} {bd' : Int → Int} {ch' : Int → List Int} {dn' : List Int} {aw' : Int → Bool} {ps' : List (Int × Int)} {wk' : List Int} {fl' : Bool}
    (hR : cp_R S' B F E n P.1 made ns' sl' st' st' (ps', bd', ch', wk', fl')) (hA : ca_R S' an' al' ar' aw' st') (e2 : S'.2.1 = S.2.1) (e3 : S'.2.2.2 = S.2.2.2) (oI : ∀ b j, b ≠ (37, 0) → b ≠ (38, 0) → b ≠ (13, 0) → b ≠ (39, 0) → S'.1 b j = S.1 b j) (oA : ∀ s i : Nat, s ∉ cs_sa → S'.2.2.1 (s, i) = S.2.2.1 (s, i)) (hst : st ≤ st') (k1 : S'.1 (13, 0) 5 = S.1 (13, 0) 5) (k2 : S'.1 (13, 0) 10 = ns')
    (n8 : cs_ck S' (cs_arr S' B F E) (S'.1 (13, 0) 7, S'.1 (13, 0) 13, S'.1 (39, 0) 7, W, made, ns', an') cs) :
    cs_R S' P K th (st', came, sl', al', ar', (made, bd', ch', ns', dn', an', aw'), todo, cs, ans) ps' wk' fl' B F E n D1 n1 c1 D2 n2 c2 u W := by
  obtain ⟨h1, h2, h3, h4, h5, h6, h7, h8, h9, h10, h11⟩ := h
  have nI : ∀ s i j : Nat, s ≠ 37 → s ≠ 38 → s ≠ 13 → s ≠ 39 → S'.1 (s, i) j = S.1 (s, i) j := fun s i j a1 a2 a3 a4 => oI _ j (fun z => a1 (congrArg Prod.fst z)) (fun z => a2 (congrArg Prod.fst z)) (fun z => a3 (congrArg Prod.fst z)) (fun z => a4 (congrArg Prod.fst z))
  have keepL : ∀ (s' i' : Nat) (D : ai_A) (s k c : Nat), s' ≠ 37 → s' ≠ 38 → s' ≠ 13 → s' ≠ 39 → jd_al S (s', i') s D k c → jd_al S' (s', i') s D k c := fun s' i' D s k c a1 a2 a3 a4 hj => jd_al_keep hj (nI s' i' 1 a1 a2 a3 a4) (by rw [e2]) (fun _ => by rw [e3]; exact ⟨rfl, rfl⟩) (fun s => by rw [e3]; exact Nat.le_refl _)
  refine ⟨hR, hA, ?_, ⟨keepL _ _ _ _ _ _ (by decide) (by decide) (by decide) (by decide) h4.1, keepL _ _ _ _ _ _ (by decide) (by decide) (by decide) (by decide) h4.2.1, by rw [e3]; exact h4.2.2.1, by rw [e3]; exact h4.2.2.2.1, h4.2.2.2.2⟩, ?_, ?_, ?_, n8, ⟨?_, k2, ?_⟩, ?_, h11⟩
  · obtain ⟨p1, p2, p3, p4⟩ := h3
    refine ⟨hR.2.2.1, by rw [e2]; exact p2, by rw [nI _ _ _ (by decide) (by decide) (by decide) (by decide)]; exact p3, fun i i0 i1 => ?_⟩
    obtain ⟨a, x, q1, q2, q3⟩ := p4 i i0 i1
    refine ⟨a, x, by rw [e3]; exact q1, q2, ?_⟩
    have ha : ∀ j, S'.1 a j = S.1 a j := fun j => by
      rcases q2 with ⟨rfl, -⟩ | ⟨rfl, -⟩
      · exact nI _ _ j (by decide) (by decide) (by decide) (by decide)
      · exact nI _ _ j (by decide) (by decide) (by decide) (by decide)
    unfold cs_co
    rw [ha, ha, ha, oA 31 x (by decide), oA 32 x (by decide), oA 33 x (by decide)]
    exact q3
  · rw [nI _ _ _ (by decide) (by decide) (by decide) (by decide)]
    exact ⟨h5.1, h5.2.1, by omega, h5.2.2.2.1, h5.2.2.2.2.1, fun z => by have := h5.2.2.2.2.2 z; omega⟩
  · rw [e2]
    exact cs_td_eq (fun i _ j => ⟨nI _ _ _ (by decide) (by decide) (by decide) (by decide), by rw [e2]⟩) h6
  · rw [nI _ _ _ (by decide) (by decide) (by decide) (by decide)]
    exact ⟨h7.1, h7.2.1, by omega, h7.2.2.2⟩
  · rw [k1]; exact h9.1
  · rw [nI _ _ _ (by decide) (by decide) (by decide) (by decide)]; exact h9.2.2
  · unfold cs_k; rw [e3]; exact h10
/-- a step is counted -/
theorem cs_R_step {S : ty_S} {P : mo_P} {K : Nat × Nat} {th : Nat} {st came : Int} {sl al ar : Int → Int} {made : Int} {bd : Int → Int} {ch : Int → List Int} {ns : Int} {dn : List Int} {an : Int} {aw : Int → Bool} {todo : List mo_Go} {cs : List mo_Ch} {ans : Int} {ps : List (Int × Int)} {wk : List Int} {fl : Bool} {B F E : ai_A} {n : Nat} {D1 : ai_A} {n1 c1 : Nat} {D2 : ai_A} {n2 c2 u W : Nat}
    (h : cs_R S P K th (st, came, sl, al, ar, (made, bd, ch, ns, dn, an, aw), todo, cs, ans) ps wk fl B F E n D1 n1 c1 D2 n2 c2 u W) (hst : st < 500) :
    cs_R (ty_sI S (37, 0) 0 (st + 1)) P K th (st + 1, came, sl, al, ar, (made, bd, ch, ns, dn, an, aw), todo, cs, ans) ps wk fl B F E n D1 n1 c1 D2 n2 c2 u W := by
  have h0 := h
  obtain ⟨h1, h2, h3, h4, h5, h6, h7, h8, h9, h10, h11⟩ := h
  obtain ⟨r1, r2, r3, r4, r5, r6, r7, r8, r9, r10, r11, r12⟩ := h1
  have nI : ∀ b j, b ≠ (37, 0) → (ty_sI S (37, 0) 0 (st + 1)).1 b j = S.1 b j := fun b j hb => if_neg (fun w => hb w.1)
  refine cs_R_v (S' := ty_sI S (37, 0) 0 (st + 1)) h0 ⟨r1, r2, r3, ?_, ⟨ty_sI_at, by omega, by omega⟩, ?_, ?_, r8, r9, ?_, ?_, r12⟩ ?_ rfl rfl (fun b j hb _ _ _ => nI b j hb) (fun _ _ _ => rfl) (by omega) (nI _ _ (by decide)) ?_ ?_
  · rw [nI _ _ (by decide)]; exact r4
  · rw [nI _ _ (by decide)]; exact r6
  · rw [nI _ _ (by decide)]; exact r7
  · rw [nI _ _ (by decide)]
    exact ⟨⟨r10.1.1, by have := r10.1.2; omega⟩, r10.2⟩
  · rw [nI _ _ (by decide)]
    exact ⟨⟨r11.1.1, by have := r11.1.2; omega⟩, r11.2⟩
  · unfold ca_R
    rw [nI _ _ (by decide), nI _ _ (by decide)]
    exact ⟨h2.1, h2.2.1, ⟨h2.2.2.1.1, by have := h2.2.2.1.2; omega⟩, h2.2.2.2⟩
  · rw [nI _ _ (by decide)]; exact h9.2.1
  · have eA : cs_arr (ty_sI S (37, 0) 0 (st + 1)) B F E = cs_arr S B F E := by
      unfold cs_arr
      rw [nI _ _ (by decide), nI _ _ (by decide), nI _ _ (by decide)]
      rfl
    rw [eA, nI _ _ (by decide), nI _ _ (by decide), nI _ _ (by decide)]
    exact cs_ck_keep cs _ _ h8 ⟨Int.le_refl _, Int.le_refl _, Int.le_refl _, Nat.le_refl _, Int.le_refl _, Int.le_refl _, Int.le_refl _⟩ (fun i _ j => ⟨nI _ _ (by simp), rfl⟩) (fun i _ j => ⟨nI _ _ (by simp), rfl⟩) (fun _ _ _ _ _ _ _ _ _ _ _ _ _ z => z)
/-- terms are made same, or tested -/
theorem cs_R_ca {S S' : ty_S} {P : mo_P} {K : Nat × Nat} {th : Nat} {st came : Int} {sl al ar : Int → Int} {made : Int} {bd : Int → Int} {ch : Int → List Int} {ns : Int} {dn : List Int} {an : Int} {aw : Int → Bool} {todo : List mo_Go} {cs : List mo_Ch} {ans : Int} {ps : List (Int × Int)} {wk : List Int} {fl : Bool} {B F E : ai_A} {n : Nat} {D1 : ai_A} {n1 c1 : Nat} {D2 : ai_A} {n2 c2 u W : Nat}
    (h : cs_R S P K th (st, came, sl, al, ar, (made, bd, ch, ns, dn, an, aw), todo, cs, ans) ps wk fl B F E n D1 n1 c1 D2 n2 c2 u W) {st' : Int} {bd' : Int → Int} {ch' : Int → List Int} {dn' : List Int} {aw' : Int → Bool} {ps' : List (Int × Int)} {wk' : List Int} {fl' : Bool}
    (hR : cp_R S' B F E n P.1 made ns sl st' st' (ps', bd', ch', wk', fl')) (hA : ca_R S' an al ar aw' st') (hf : ca_fm S S' B F E) (hu : cp_ud S S' B F E) (ha : ca_ud S S') (hk : S'.2.2.2.2.2.2.2 = S.2.2.2.2.2.2.2) (hst : st ≤ st') :
    cs_R S' P K th (st', came, sl, al, ar, (made, bd', ch', ns, dn', an, aw'), todo, cs, ans) ps' wk' fl' B F E n D1 n1 c1 D2 n2 c2 u W := by
  have h0 := h
  obtain ⟨h1, h2, h3, h4, h5, h6, h7, h8, h9, h10, h11⟩ := h
  have hV := h1.2.1
  have vI : ∀ j, j ≠ 7 → j ≠ 13 → S'.1 (13, 0) j = S.1 (13, 0) j := fun j h1 h2 => hf.1 _ j (by decide) (by decide) (by decide) (fun z => z.2.elim h1 h2)
  have nI : ∀ s i j : Nat, s ≠ 37 → s ≠ 38 → s ≠ 13 → s ≠ 39 → S'.1 (s, i) j = S.1 (s, i) j := fun s i j a1 a2 a3 a4 => hf.1 _ j (fun z => a1 (congrArg Prod.fst z)) (fun z => a2 (congrArg Prod.fst z)) (fun z => a4 (congrArg Prod.fst z)) (fun z => a3 (congrArg Prod.fst z.1))
  have hF := hf.F hV
  refine cs_R_v (S' := S') h0 hR hA hf.2.1 (Prod.ext hf.2.2.2.1 (Prod.ext hf.2.2.2.2.1 (Prod.ext hf.2.2.2.2.2.1 (Prod.ext hf.2.2.2.2.2.2 hk)))) (fun b j a1 a2 a3 a4 => hf.1 b j a1 a2 a4 (fun z => a3 z.1)) (fun s i hs => (hF.2.1 (s, i) hs).1) hst (vI _ (by decide) (by decide)) (by rw [vI _ (by decide) (by decide)]; exact h9.2.1) ?_
  refine cs_ck_keep cs _ _ h8 ⟨hu.1, hu.2.1, ha.1, Nat.le_refl _, Int.le_refl _, Int.le_refl _, Int.le_refl _⟩ (fun i _ j => ⟨nI _ _ _ (by decide) (by decide) (by decide) (by decide), by rw [hf.2.1]⟩) (fun i _ j => ⟨nI _ _ _ (by decide) (by decide) (by decide) (by decide), by rw [hf.2.1]⟩) (fun kb kg ks V q1 q2 q3 q4 q5 q6 _ _ _ hs => cs_sn_ud hu ha ⟨q1, q2⟩ ⟨q3, q4⟩ ⟨q5, q6⟩ hs)
/-- one more apart -/
theorem cs_R_apart {S : ty_S} {P : mo_P} {K : Nat × Nat} {th : Nat} {st came : Int} {sl al ar : Int → Int} {made : Int} {bd : Int → Int} {ch : Int → List Int} {ns : Int} {dn : List Int} {an : Int} {aw : Int → Bool} {todo : List mo_Go} {cs : List mo_Ch} {ans : Int} {ps : List (Int × Int)} {wk : List Int} {fl : Bool} {B F E : ai_A} {n : Nat} {D1 : ai_A} {n1 c1 : Nat} {D2 : ai_A} {n2 c2 u W : Nat}
    (h : cs_R S P K th (st, came, sl, al, ar, (made, bd, ch, ns, dn, an, aw), todo, cs, ans) ps wk fl B F E n D1 n1 c1 D2 n2 c2 u W) (han : an < 500) {x y : Int} :
    cs_R (ty_sI (ty_sA (ty_sA (ty_sA S (43, 0) an x) (44, 0) an y) (45, 0) an 1) (39, 0) 5 (an + 1)) P K th (st, came, sl, mo_up al an x, mo_up ar an y, (made, bd, ch, ns, dn, an + 1, mo_uw aw an true), todo, cs, ans) ps wk fl B F E n D1 n1 c1 D2 n2 c2 u W := by
  have h0 := h
  obtain ⟨h1, h2, h3, h4, h5, h6, h7, h8, h9, h10, h11⟩ := h
  generalize hT : ty_sI (ty_sA (ty_sA (ty_sA S (43, 0) an x) (44, 0) an y) (45, 0) an 1) (39, 0) 5 (an + 1) = T
  have e2 : T.2.1 = S.2.1 := by rw [← hT]; rfl
  have e3 : T.2.2.2 = S.2.2.2 := by rw [← hT]; rfl
  have eI : ∀ b j, T.1 b j = if b = (39, 0) ∧ j = 5 then an + 1 else S.1 b j := fun b j => by rw [← hT]; rfl
  have eA : ∀ b j, T.2.2.1 b j = if b = (45, 0) ∧ j = an then 1 else if b = (44, 0) ∧ j = an then y else if b = (43, 0) ∧ j = an then x else S.2.2.1 b j := fun b j => by rw [← hT]; rfl
  clear hT
  have nI : ∀ b j, b ≠ (39, 0) → T.1 b j = S.1 b j := fun b j hb => by rw [eI, if_neg (fun w => hb w.1)]
  have aI : T.1 (39, 0) 7 = S.1 (39, 0) 7 := by rw [eI, if_neg (by decide)]
  have nA : ∀ b, b ≠ (45, 0) → b ≠ (44, 0) → b ≠ (43, 0) → T.2.2.1 b = S.2.2.1 b := fun b q1 q2 q3 => by
    funext j
    rw [eA, if_neg (fun w => q1 w.1), if_neg (fun w => q2 w.1), if_neg (fun w => q3 w.1)]
  have sA : ∀ s i : Nat, s ≠ 45 → s ≠ 44 → s ≠ 43 → T.2.2.1 (s, i) = S.2.2.1 (s, i) := fun s i q1 q2 q3 => nA _ (fun z => q1 (congrArg Prod.fst z)) (fun z => q2 (congrArg Prod.fst z)) (fun z => q3 (congrArg Prod.fst z))
  have hV := h1.2.1
  have nw := cv_ne hV (s := 45) (i := 0) (by decide)
  have nr := cv_ne hV (s := 44) (i := 0) (by decide)
  have nl := cv_ne hV (s := 43) (i := 0) (by decide)
  have tB := nA B nw.1.1 nr.1.1 nl.1.1
  have tF := nA F nw.1.2.1 nr.1.2.1 nl.1.2.1
  have tE := nA E nw.1.2.2 nr.1.2.2 nl.1.2.2
  have tW : ∀ j, j ≠ an → T.2.2.1 (45, 0) j = S.2.2.1 (45, 0) j := fun j hj => by
    rw [eA, if_neg (fun w => hj w.2), if_neg (by simp), if_neg (by simp)]
  obtain ⟨r1, r2, r3, r4, r5, r6, r7, r8, r9, r10, r11, r12⟩ := h1
  refine cs_R_v (S' := T) h0 (st' := st) (bd' := bd) (ch' := ch) (dn' := dn) (ps' := ps) (wk' := wk) (fl' := fl) (sl' := sl) (ns' := ns) ⟨⟨by rw [e3]; exact r1.1, by rw [e3]; exact r1.2.1, by rw [e2]; exact r1.2.2⟩, ?_, ?_, ?_, ?_, ?_, ?_, ?_, ?_, ?_, ?_, r12⟩ ⟨⟨by rw [eI, if_pos ⟨rfl, rfl⟩], by have := h2.1.2.1; omega, by omega⟩, fun i i0 i1 => ?_, ?_⟩ e2 e3 (fun b j _ _ _ hb => nI b j hb) (fun s i hs => sA s i (cs_F_ne hs rfl) (cs_F_ne hs rfl) (cs_F_ne hs rfl)) (Int.le_refl _) (nI _ _ (by decide)) ?_ ?_
  · unfold cv_sh; rw [e2, e3]; exact r2
  · unfold cv_g
    rw [sA 19 0 (by decide) (by decide) (by decide), sA 20 0 (by decide) (by decide) (by decide), sA 21 0 (by decide) (by decide) (by decide), sA 22 0 (by decide) (by decide) (by decide)]
    exact r3
  · rw [nI _ _ (by decide)]; exact r4
  · rw [nI _ _ (by decide)]; exact r5
  · rw [sA 40 0 (by decide) (by decide) (by decide), sA 41 0 (by decide) (by decide) (by decide), nI _ _ (by decide)]; exact r6
  · rw [sA 42 0 (by decide) (by decide) (by decide), nI _ _ (by decide)]; exact r7
  · rw [tB, tF, tE, sA 28 0 (by decide) (by decide) (by decide)]; exact r8
  · rw [sA 27 0 (by decide) (by decide) (by decide)]; exact r9
  · rw [sA 26 0 (by decide) (by decide) (by decide), nI _ _ (by decide)]; exact r10
  · rw [sA 29 0 (by decide) (by decide) (by decide), sA 30 0 (by decide) (by decide) (by decide), nI _ _ (by decide)]; exact r11
  · rw [eA, eA, eA]
    unfold mo_up mo_uw
    by_cases e : i = an
    · simp [e]
    · have := h2.2.1 i i0 (by omega)
      simp only [e, and_false, if_false]
      exact this
  · rw [aI, sA 46 0 (by decide) (by decide) (by decide)]
    exact h2.2.2
  · rw [nI _ _ (by decide)]; exact h9.2.1
  · rw [nI _ _ (by decide), nI _ _ (by decide), aI]
    refine cs_ck_keep cs _ _ h8 ⟨Int.le_refl _, Int.le_refl _, Int.le_refl _, Nat.le_refl _, Int.le_refl _, Int.le_refl _, show an ≤ an + 1 by omega⟩ (fun i _ j => ⟨nI _ _ (by simp), by rw [e2]⟩) (fun i _ j => ⟨nI _ _ (by simp), by rw [e2]⟩) (fun kb kg ks V q1 q2 q3 q4 q5 q6 q7 q8 q9 hs => ?_)
    have q9 : V.2.2.2.2.2.1 ≤ an := q9
    unfold cs_sn cs_arr at hs ⊢
    simp only at hs ⊢
    rw [tB, tF, tE, sA 28 0 (by decide) (by decide) (by decide), sA 26 0 (by decide) (by decide) (by decide), sA 29 0 (by decide) (by decide) (by decide), sA 30 0 (by decide) (by decide) (by decide), sA 46 0 (by decide) (by decide) (by decide), nI _ _ (by decide), nI _ _ (by decide), aI]
    refine ⟨hs.1, fun j j0 j1 => ?_, hs.2.2⟩
    rw [← hs.2.1 j j0 j1]
    exact ca_sw_at (tW j (by omega)) _
