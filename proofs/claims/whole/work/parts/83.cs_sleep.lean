/-! One more sleeper. -/
theorem mo_last_neg {l : List Int} (h : ∀ c ∈ l, 0 ≤ c) : mo_last l = -1 ↔ l = [] := by
  constructor
  · intro z
    by_cases e : l = []
    · exact e
    · have := h _ (mo_last_mem e)
      omega
  · intro z
    rw [z]
    rfl
theorem cv_rv_sleep {b f e x : Int → Int} {made ns : Int} {bd : Int → Int} {ch : Int → List Int} {w : List Int} (h : cv_rv b f e x made bd ch) (hc : mo_cw made ns bd ch w) {v : Int} (h0 : 0 ≤ v ∧ v < made ∧ bd v = mo_F) (hx : x ns = -1) (hns : 0 ≤ ns) :
    cv_rv b (if e v = -1 then mo_up f v ns else f) (mo_up e v ns) (if e v = -1 then x else mo_up x (e v) ns) made bd (mo_upc ch v (ch v ++ [ns])) := by
  obtain ⟨h1, h2⟩ := h
  obtain ⟨p1, p2⟩ := h2 v h0.1 h0.2.1 h0.2.2
  obtain ⟨c1, c2, c3, c4⟩ := hc
  obtain ⟨a1, a2, a3⟩ := c1 v h0.1 h0.2.1 h0.2.2
  have el : e v = -1 ↔ ch v = [] := by rw [p2]; exact mo_last_neg (fun c hm => (a1 c hm).1)
  refine ⟨h1, fun u u0 u1 uf => ?_⟩
  obtain ⟨q1, q2⟩ := h2 u u0 u1 uf
  by_cases eu : u = v
  · subst eu
    have e1 : mo_upc ch u (ch u ++ [ns]) u = ch u ++ [ns] := if_pos rfl
    have e2 : mo_up e u ns u = ns := if_pos rfl
    rw [e1, e2]
    refine ⟨?_, (mo_last_app (ch u) [ns] (by simp)).symm⟩
    by_cases z : e u = -1
    · rw [if_pos z, if_pos z]
      rw [el.mp z]
      have e3 : mo_up f u ns u = ns := if_pos rfl
      rw [e3]
      exact ⟨rfl, hns, hx⟩
    · rw [if_neg z, if_neg z]
      have hne : ch u ≠ [] := fun y => z (el.mpr y)
      rw [p2]
      exact mo_lnk_app p1 (show mo_lnk x ns [ns] from ⟨rfl, hns, hx⟩) hne a2 (fun c hm hm2 => by
        rw [List.mem_singleton.mp hm2] at hm
        have := a1 ns hm
        omega)
  · have e1 : mo_upc ch v (ch v ++ [ns]) u = ch u := if_neg eu
    have e2 : mo_up e v ns u = e u := if_neg eu
    have e3 : (if e v = -1 then mo_up f v ns else f) u = f u := by
      split
      · exact if_neg eu
      · rfl
    rw [e1, e2, e3]
    refine ⟨?_, q2⟩
    by_cases z : e v = -1
    · rw [if_pos z]; exact q1
    · rw [if_neg z]
      refine mo_lnk_eq (fun c hm => if_neg (fun y => ?_)) q1
      have hne : ch v ≠ [] := fun y => z (el.mpr y)
      have hl := mo_last_mem hne
      rw [← p2, ← y] at hl
      exact c2 u v u0 u1 h0.1 h0.2.1 uf h0.2.2 eu c hm hl
theorem cs_R_sleep {S : ty_S} {P : mo_P} {K : Nat × Nat} {th : Nat} {st came : Int} {sl al ar : Int → Int} {made : Int} {bd : Int → Int} {ch : Int → List Int} {ns : Int} {dn : List Int} {an : Int} {aw : Int → Bool} {todo : List mo_Go} {cs : List mo_Ch} {ans : Int} {ps : List (Int × Int)} {fl : Bool} {B F E : ai_A} {n : Nat} {D1 : ai_A} {n1 c1 : Nat} {D2 : ai_A} {n2 c2 u W : Nat}
    (h : cs_R S P K th (st, came, sl, al, ar, (made, bd, ch, ns, dn, an, aw), todo, cs, ans) ps [] fl B F E n D1 n1 c1 D2 n2 c2 u W) (hns : ns < 500) (hg : S.1 (13, 0) 13 < st) {v call : Int} (hv : 0 ≤ v ∧ v < made ∧ bd v = mo_F) (hcw : mo_cw made ns bd ch dn) :
    cs_R (cv_ps S F E v call ns (S.1 (13, 0) 13)) P K th (st, came, mo_up sl ns call, al, ar, (made, bd, mo_upc ch v (ch v ++ [ns]), ns + 1, dn, an, aw), todo, cs, ans) ps [] fl B F E n D1 n1 c1 D2 n2 c2 u W ∧ cs_F S (cv_ps S F E v call ns (S.1 (13, 0) 13)) ∧ -1 ≤ S.2.2.1 E v ∧ S.2.2.1 E v < 500 := by
  have h0 := h
  obtain ⟨h1, h2, h3, h4, h5, h6, h7, h8, h9, h10, h11⟩ := h
  have hV := h1.2.1
  have n27 := cv_ne hV (s := 27) (i := 0) (by decide)
  have n28 := cv_ne hV (s := 28) (i := 0) (by decide)
  obtain ⟨r1, r2, r3, r4, r5, r6, r7, r8, r9, r10, r11, r12⟩ := h1
  simp only at r6 r7 r8
  have hEv : S.2.2.1 E v = mo_last (ch v) := (r8.2 v hv.1 hv.2.1 hv.2.2).2
  have hEr : -1 ≤ S.2.2.1 E v ∧ S.2.2.1 E v < ns := by
    rw [hEv]
    by_cases e : ch v = []
    · rw [e]
      exact ⟨Int.le_refl _, by show (-1 : Int) < ns; omega⟩
    · have := (hcw.1 v hv.1 hv.2.1 hv.2.2).1 _ (mo_last_mem e)
      omega
  unfold cv_ps
  generalize hT : ty_sA (ty_sA (ty_sI S (13, 0) 10 (ns + 1)) (27, 0) ns call) (28, 0) ns (-1) = T
  have e2 : T.2.1 = S.2.1 := by rw [← hT]; rfl
  have e3 : T.2.2.2 = S.2.2.2 := by rw [← hT]; rfl
  have eI : ∀ b j, T.1 b j = if b = (13, 0) ∧ j = 10 then ns + 1 else S.1 b j := fun b j => by rw [← hT]; rfl
  have eA : ∀ b j, T.2.2.1 b j = if b = (28, 0) ∧ j = ns then -1 else if b = (27, 0) ∧ j = ns then call else S.2.2.1 b j := fun b j => by rw [← hT]; rfl
  clear hT
  have nI : ∀ b j, b ≠ (13, 0) → T.1 b j = S.1 b j := fun b j hb => by rw [eI, if_neg (fun w => hb w.1)]
  have vI : ∀ j, j ≠ 10 → T.1 (13, 0) j = S.1 (13, 0) j := fun j hj => by rw [eI, if_neg (fun w => hj w.2)]
  have nA : ∀ b, b ≠ (28, 0) → b ≠ (27, 0) → T.2.2.1 b = S.2.2.1 b := fun b q1 q2 => by
    funext j
    rw [eA, if_neg (fun w => q1 w.1), if_neg (fun w => q2 w.1)]
  have sA : ∀ s i : Nat, s ≠ 28 → s ≠ 27 → T.2.2.1 (s, i) = S.2.2.1 (s, i) := fun s i q1 q2 => nA _ (fun z => q1 (congrArg Prod.fst z)) (fun z => q2 (congrArg Prod.fst z))
  have tB := nA B n28.1.1 n27.1.1
  have tF := nA F n28.1.2.1 n27.1.2.1
  have tE := nA E n28.1.2.2 n27.1.2.2
  have tX : ∀ j, j ≠ ns → T.2.2.1 (28, 0) j = S.2.2.1 (28, 0) j := fun j hj => by
    rw [eA, if_neg (fun w => hj w.2), if_neg (by simp)]
  have tXn : T.2.2.1 (28, 0) ns = -1 := by rw [eA, if_pos ⟨rfl, rfl⟩]
  have hrvT : cv_rv (T.2.2.1 B) (T.2.2.1 F) (T.2.2.1 E) (T.2.2.1 (28, 0)) made bd ch := by
    rw [tB, tF, tE]
    refine ⟨r8.1, fun u u0 u1 uf => ?_⟩
    obtain ⟨q1, q2⟩ := r8.2 u u0 u1 uf
    refine ⟨mo_lnk_eq (fun c hm => tX c (fun z => ?_)) q1, q2⟩
    have := (hcw.1 u u0 u1 uf).1 c hm
    omega
  have hRT : cp_R T B F E n P.1 made (ns + 1) (mo_up sl ns call) st st (ps, bd, ch, [], fl) := by
    refine ⟨⟨by rw [e3]; exact r1.1, by rw [e3]; exact r1.2.1, by rw [e2]; exact r1.2.2⟩, ?_, ?_, ?_, ?_, ?_, ?_, hrvT, fun e e0 e1 => ?_, ?_, ?_, by omega⟩
    · unfold cv_sh; rw [e2, e3]; exact r2
    · unfold cv_g
      rw [sA 19 0 (by decide) (by decide), sA 20 0 (by decide) (by decide), sA 21 0 (by decide) (by decide), sA 22 0 (by decide) (by decide)]
      exact r3
    · rw [vI _ (by decide)]; exact r4
    · rw [nI _ _ (by decide)]; exact r5
    · rw [sA 40 0 (by decide) (by decide), sA 41 0 (by decide) (by decide), nI _ _ (by decide)]; exact r6
    · rw [sA 42 0 (by decide) (by decide), nI _ _ (by decide)]; exact r7
    · rw [eA, if_neg (by simp)]
      unfold mo_up
      by_cases ee : e = ns
      · rw [if_pos ⟨rfl, ee⟩, if_pos ee]
      · rw [if_neg (fun w => ee w.2), if_neg ee]
        exact r9 e e0 (by omega)
    · rw [sA 26 0 (by decide) (by decide), vI _ (by decide)]; exact r10
    · rw [sA 29 0 (by decide) (by decide), sA 30 0 (by decide) (by decide), vI _ (by decide)]; exact r11
  have hgc : T.1 (13, 0) 13 = S.1 (13, 0) 13 := vI _ (by decide)
  have hL := cp_R_link hRT (v := v) (first := ns) (last := ns) (ch' := mo_upc ch v (ch v ++ [ns])) ⟨hv.1, hv.2.1⟩ (by rw [tE]; omega) (by rw [hgc]; exact hg) (fun z => by
      rw [tE] at z
      rw [tF]
      have q := r8.2 v hv.1 hv.2.1 hv.2.2
      rw [q.2] at z
      exact (mo_lnk_nil q.1).mpr ((mo_last_neg (fun c hm => ((hcw.1 v hv.1 hv.2.1 hv.2.2).1 c hm).1)).mp z)) (fun z => by
      rw [tE] at z ⊢
      rw [tX _ (by omega)]
      have q := r8.2 v hv.1 hv.2.1 hv.2.2
      rw [q.2] at z ⊢
      exact mo_lnk_last q.1 (fun y => z (by rw [y]; rfl))) (cv_rv_sleep hrvT hcw hv tXn r12.1)
  rw [hgc] at hL
  obtain ⟨hL1, hL2, hL3⟩ := hL
  have hAT : ca_R T an al ar aw st := by
    unfold ca_R
    rw [nI _ _ (by decide), nI _ _ (by decide), sA 43 0 (by decide) (by decide), sA 44 0 (by decide) (by decide), sA 45 0 (by decide) (by decide), sA 46 0 (by decide) (by decide)]
    exact h2
  have hFT : cs_F S T := ⟨fun b a j => ⟨nI b j (cs_F_fst (cs_F_ne a rfl)), by rw [e2]⟩, fun b a => ⟨nA b (cs_F_fst (cs_F_ne a rfl)) (cs_F_fst (cs_F_ne a rfl)), fun _ => by rw [e3], by rw [e3]⟩, by rw [e3], fun s _ => by rw [e3]⟩
  have hT : cs_R T P K th (st, came, mo_up sl ns call, al, ar, (made, bd, ch, ns + 1, dn, an, aw), todo, cs, ans) ps [] fl B F E n D1 n1 c1 D2 n2 c2 u W := by
    refine cs_R_v h0 hRT hAT e2 e3 (fun b j _ _ hb _ => nI b j hb) (fun s i hs => sA s i (cs_F_ne hs rfl) (cs_F_ne hs rfl)) (Int.le_refl _) (vI _ (by decide)) (by rw [eI, if_pos ⟨rfl, rfl⟩]) ?_
    rw [vI _ (by decide), vI _ (by decide), nI _ _ (by decide)]
    refine cs_ck_keep cs _ _ h8 ⟨Int.le_refl _, Int.le_refl _, Int.le_refl _, Nat.le_refl _, Int.le_refl _, show ns ≤ ns + 1 by omega, Int.le_refl _⟩ (fun i _ j => ⟨nI _ _ (by simp), by rw [e2]⟩) (fun i _ j => ⟨nI _ _ (by simp), by rw [e2]⟩) (fun kb kg ks V q1 q2 q3 q4 q5 q6 q7 q8 q9 hs => ?_)
    have q8 : V.2.2.2.1 ≤ ns := q8
    unfold cs_sn cs_arr at hs ⊢
    simp only at hs ⊢
    rw [tB, tF, tE, sA 26 0 (by decide) (by decide), sA 29 0 (by decide) (by decide), sA 30 0 (by decide) (by decide), sA 45 0 (by decide) (by decide), sA 46 0 (by decide) (by decide), vI _ (by decide), vI _ (by decide), nI _ _ (by decide)]
    obtain ⟨⟨s1, s2⟩, s3, s4⟩ := hs
    refine ⟨⟨s1, fun w w0 w1 wf => ?_⟩, s3, s4⟩
    obtain ⟨t1, t2⟩ := s2 w w0 w1 wf
    have hun := cv_un_at (f := S.2.2.1 F) (e := S.2.2.1 E) (x := S.2.2.1 (28, 0)) (f' := S.2.2.1 F) (e' := S.2.2.1 E) (x' := T.2.2.1 (28, 0)) (on := S.2.2.1 (29, 0)) (gb := S.2.2.1 (30, 0)) (gc := S.1 (13, 0) 13) (S.1 (13, 0) 13 - kg).toNat
    rw [(hun w).1 rfl, (hun w).2.1 rfl]
    refine ⟨mo_lnk_eq (fun c hm => (hun c).2.2 (tX c ?_)) t1, t2⟩
    have := s4 w w0 w1 wf c hm
    omega
  have hA2 := ca_R_keep hRT.2.1 hL2 hAT (Int.le_refl st)
  refine ⟨cs_R_ca hT hL1 hA2.1 hL2.ca hL3 hA2.2 ?_ (Int.le_refl _), hFT.trans (hL2.ca.F hRT.2.1), hEr.1, by omega⟩
  rw [(cv_lk_2).2]
