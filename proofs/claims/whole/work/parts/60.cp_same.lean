/-! One more bound, one more linked, some that wake: what holds behind it. -/
section CPS
variable {L : Nat} {xs : Nat → Int32} {S : ty_S} {B F E : ai_A} {n : Nat} {G : mo_G} {made ns st k : Int} {sl : Int → Int} {u : mo_U}
def cp_b (S : ty_S) (B : ai_A) (v t : Int) : ty_S := ty_sI (ty_sA (ty_sA S B v t) (26, 0) (S.1 (13, 0) 7) v) (13, 0) 7 (S.1 (13, 0) 7 + 1)
theorem cp_b_A (hV : cv_sh S B F E n) {v t : Int} : (cp_b S B v t).2.2.1 B = mo_up (S.2.2.1 B) v t ∧ (cp_b S B v t).2.2.1 (26, 0) = mo_up (S.2.2.1 (26, 0)) (S.1 (13, 0) 7) v ∧ ∀ b, b ≠ B → b ≠ (26, 0) → (cp_b S B v t).2.2.1 b = S.2.2.1 b := by
  have hne := cv_ne hV (s := 26) (i := 0) (by decide)
  refine ⟨?_, ?_, fun b h1 h2 => ?_⟩
  · show (ty_sA (ty_sA S B v t) (26, 0) _ v).2.2.1 B = _
    rw [ty_sA_ne hne.1.1, ty_sA_at]
    rfl
  · show (ty_sA (ty_sA S B v t) (26, 0) _ v).2.2.1 (26, 0) = _
    rw [ty_sA_at, ty_sA_ne hne.2.1]
    rfl
  · show (ty_sA (ty_sA S B v t) (26, 0) _ v).2.2.1 b = _
    rw [ty_sA_ne h2, ty_sA_ne h1]
theorem cp_R_bind (hR : cp_R S B F E n G made ns sl st k u) {v t : Int} (hv : 0 ≤ v ∧ v < made ∧ u.2.1 v = mo_F) (ht : t ≠ mo_F) (fl : Bool) : cp_R (cp_b S B v t) B F E n G made ns sl st (k + 1) (u.1, mo_up u.2.1 v t, u.2.2.1, u.2.2.2.1, fl) ∧ cp_fm S (cp_b S B v t) B F E ∧ cp_ud S (cp_b S B v t) B F E := by
  obtain ⟨r1, r2, r3, r4, r5, r6, r7, r8, r9, r10, r11, r12⟩ := hR
  obtain ⟨a1, a2, a3⟩ := cp_b_A r2 (v := v) (t := t)
  have d1 := r2.2.2.2.2.1
  have hs : ∀ s : Nat, s ≠ 23 ∧ s ≠ 24 ∧ s ≠ 25 ∧ s ≠ 48 → (s, 0) ≠ B := fun s h => (cv_ne r2 h).2.1
  have hs2 : ∀ s : Nat, s ≠ 23 ∧ s ≠ 24 ∧ s ≠ 25 ∧ s ≠ 48 → F ≠ (s, 0) ∧ E ≠ (s, 0) := fun s h => (cv_ne r2 h).1.2
  have oth : ∀ s : Nat, (s ≠ 23 ∧ s ≠ 24 ∧ s ≠ 25 ∧ s ≠ 48) → s ≠ 26 → (cp_b S B v t).2.2.1 (s, 0) = S.2.2.1 (s, 0) := fun s h h2 => a3 _ (hs s h) (fun z => h2 (congrArg Prod.fst z))
  have aF : (cp_b S B v t).2.2.1 F = S.2.2.1 F := a3 F (fun z => d1.1 z.symm) (hs2 _ (by decide)).1
  have aE : (cp_b S B v t).2.2.1 E = S.2.2.1 E := a3 E (fun z => d1.2.1 z.symm) (hs2 _ (by decide)).2
  have i1 : ∀ b j, ¬ (b = (13, 0) ∧ j = 7) → (cp_b S B v t).1 b j = S.1 b j := fun b j h => if_neg h
  have i2 : (cp_b S B v t).1 (13, 0) 7 = S.1 (13, 0) 7 + 1 := ty_sI_at
  refine ⟨⟨r1, r2, ?_, ?_, ?_, ?_, ?_, ?_, ?_, ?_, ?_, r12⟩, ⟨fun b j h1 h2 h3 => i1 b j (fun z => h3 ⟨z.1, .inl z.2⟩), rfl, fun b h1 h2 h3 h4 _ _ _ _ _ _ => a3 b h1 h4, rfl, rfl, rfl, rfl⟩, ?_⟩
  · unfold cv_g
    rw [oth 19 (by decide) (by decide), oth 20 (by decide) (by decide), oth 21 (by decide) (by decide), oth 22 (by decide) (by decide)]
    exact r3
  · rw [i1 _ _ (by decide)]; exact r4
  · rw [i1 _ _ (by decide)]; exact r5
  · rw [oth 40 (by decide) (by decide), oth 41 (by decide) (by decide), i1 _ _ (by decide)]; exact r6
  · rw [oth 42 (by decide) (by decide), i1 _ _ (by decide)]; exact r7
  · rw [a1, aF, aE, oth 28 (by decide) (by decide)]
    exact cv_rv_bind r8 ht
  · rw [oth 27 (by decide) (by decide)]; exact r9
  · rw [i2, a2]
    refine ⟨by omega, fun i h0 h1 => ?_⟩
    simp only [mo_up]
    by_cases e : i = S.1 (13, 0) 7
    · rw [if_pos e]; exact ⟨hv.1, by omega⟩
    · rw [if_neg e]; exact r10.2 i h0 (by omega)
  · rw [oth 29 (by decide) (by decide), oth 30 (by decide) (by decide), i1 _ _ (by decide)]
    exact ⟨⟨r11.1.1, by omega⟩, r11.2⟩
  · refine ⟨by rw [i2]; omega, by rw [i1 _ _ (by decide)]; omega, fun q h0 h1 => ?_, fun q h0 h1 => ?_⟩
    · rw [a1, a2, i2]
      exact cv_fr_bind h1 (by rw [r8.1 v hv.1 hv.2.1]; exact hv.2.2)
    · rw [aF, aE, oth 28 (by decide) (by decide), oth 29 (by decide) (by decide), oth 30 (by decide) (by decide), i1 _ _ (by decide)]
theorem cv_lk_A (hV : cv_sh S B F E n) {v first last gc : Int} : (cv_lk S F E v first last gc).2.2.1 F = (if S.2.2.1 E v = -1 then mo_up (S.2.2.1 F) v first else S.2.2.1 F) ∧ (cv_lk S F E v first last gc).2.2.1 E = mo_up (S.2.2.1 E) v last ∧
    (cv_lk S F E v first last gc).2.2.1 (28, 0) = (if S.2.2.1 E v = -1 then S.2.2.1 (28, 0) else mo_up (S.2.2.1 (28, 0)) (S.2.2.1 E v) first) ∧ (cv_lk S F E v first last gc).2.2.1 (29, 0) = mo_up (S.2.2.1 (29, 0)) gc v ∧ (cv_lk S F E v first last gc).2.2.1 (30, 0) = mo_up (S.2.2.1 (30, 0)) gc (S.2.2.1 E v) ∧
    ∀ b, b ≠ F → b ≠ E → b ≠ (28, 0) → b ≠ (29, 0) → b ≠ (30, 0) → (cv_lk S F E v first last gc).2.2.1 b = S.2.2.1 b := by
  have n29 := cv_ne hV (s := 29) (i := 0) (by decide)
  have n30 := cv_ne hV (s := 30) (i := 0) (by decide)
  have n28 := cv_ne hV (s := 28) (i := 0) (by decide)
  have d3 := hV.2.2.2.2.1.2.2
  have d3' : ¬ E = F := fun z => d3 z.symm
  by_cases h : S.2.2.1 E v = -1
  · unfold cv_lk
    rw [if_pos h, if_pos h, if_pos h]
    refine ⟨?_, ?_, ?_, ?_, ?_, fun b h1 h2 h3 h4 h5 => ?_⟩
    · rw [ty_sA_ne d3, ty_sA_at]
      show (fun j => if j = v then first else (ty_sA (ty_sA S _ _ _) _ _ _).2.2.1 F j) = _
      rw [ty_sA_ne n30.1.2.1, ty_sA_ne n29.1.2.1]
      rfl
    · rw [ty_sA_at, ty_sA_ne d3']
      show (fun j => if j = v then last else (ty_sA (ty_sA S _ _ _) _ _ _).2.2.1 E j) = _
      rw [ty_sA_ne n30.1.2.2, ty_sA_ne n29.1.2.2]
      rfl
    · rw [ty_sA_ne n28.2.2.2, ty_sA_ne n28.2.2.1]
      show (ty_sA (ty_sA S _ _ _) _ _ _).2.2.1 (28, 0) = _
      rw [ty_sA_ne (by decide), ty_sA_ne (by decide)]
    · rw [ty_sA_ne n29.2.2.2, ty_sA_ne n29.2.2.1]
      show (ty_sA (ty_sA S _ _ _) _ _ _).2.2.1 (29, 0) = _
      rw [ty_sA_ne (by decide), ty_sA_at]
      rfl
    · rw [ty_sA_ne n30.2.2.2, ty_sA_ne n30.2.2.1]
      show (ty_sA (ty_sA S _ _ _) _ _ _).2.2.1 (30, 0) = _
      rw [ty_sA_at, ty_sA_ne (by decide)]
      rfl
    · rw [ty_sA_ne h2, ty_sA_ne h1]
      show (ty_sA (ty_sA S _ _ _) _ _ _).2.2.1 b = _
      rw [ty_sA_ne h5, ty_sA_ne h4]
  · unfold cv_lk
    rw [if_neg h, if_neg h, if_neg h]
    refine ⟨?_, ?_, ?_, ?_, ?_, fun b h1 h2 h3 h4 h5 => ?_⟩
    · rw [ty_sA_ne d3, ty_sA_ne n28.1.2.1]
      show (ty_sA (ty_sA S _ _ _) _ _ _).2.2.1 F = _
      rw [ty_sA_ne n30.1.2.1, ty_sA_ne n29.1.2.1]
    · rw [ty_sA_at, ty_sA_ne n28.1.2.2]
      show (fun j => if j = v then last else (ty_sA (ty_sA S _ _ _) _ _ _).2.2.1 E j) = _
      rw [ty_sA_ne n30.1.2.2, ty_sA_ne n29.1.2.2]
      rfl
    · rw [ty_sA_ne n28.2.2.2, ty_sA_at]
      show (fun j => if j = S.2.2.1 E v then first else (ty_sA (ty_sA S _ _ _) _ _ _).2.2.1 (28, 0) j) = _
      rw [ty_sA_ne (by decide), ty_sA_ne (by decide)]
      rfl
    · rw [ty_sA_ne n29.2.2.2, ty_sA_ne (by decide)]
      show (ty_sA (ty_sA S _ _ _) _ _ _).2.2.1 (29, 0) = _
      rw [ty_sA_ne (by decide), ty_sA_at]
      rfl
    · rw [ty_sA_ne n30.2.2.2, ty_sA_ne (by decide)]
      show (ty_sA (ty_sA S _ _ _) _ _ _).2.2.1 (30, 0) = _
      rw [ty_sA_at, ty_sA_ne (by decide)]
      rfl
    · rw [ty_sA_ne h2, ty_sA_ne h3]
      show (ty_sA (ty_sA S _ _ _) _ _ _).2.2.1 b = _
      rw [ty_sA_ne h5, ty_sA_ne h4]
theorem cv_lk_I {v first last gc : Int} : (cv_lk S F E v first last gc).1 = (ty_sI S (13, 0) 13 (gc + 1)).1 := by
  unfold cv_lk
  split <;> rfl
theorem cv_lk_2 {v first last gc : Int} : (cv_lk S F E v first last gc).2.1 = S.2.1 ∧ (cv_lk S F E v first last gc).2.2.2 = S.2.2.2 := by
  unfold cv_lk
  split <;> exact ⟨rfl, rfl⟩
/-- linked: f, e, x as they are behind it hold bd', ch' -/
theorem cp_R_link (hR : cp_R S B F E n G made ns sl st k u) {v first last : Int} {ch' : Int → List Int} (hv : 0 ≤ v ∧ v < made) (hgb : -1 ≤ S.2.2.1 E v ∧ S.2.2.1 E v < ns) (hg : S.1 (13, 0) 13 < k) (hf : S.2.2.1 E v = -1 → S.2.2.1 F v = -1) (hx : S.2.2.1 E v ≠ -1 → S.2.2.1 (28, 0) (S.2.2.1 E v) = -1)
    (hrv : cv_rv (S.2.2.1 B) (if S.2.2.1 E v = -1 then mo_up (S.2.2.1 F) v first else S.2.2.1 F) (mo_up (S.2.2.1 E) v last) (if S.2.2.1 E v = -1 then S.2.2.1 (28, 0) else mo_up (S.2.2.1 (28, 0)) (S.2.2.1 E v) first) made u.2.1 ch') :
    cp_R (cv_lk S F E v first last (S.1 (13, 0) 13)) B F E n G made ns sl st k (u.1, u.2.1, ch', u.2.2.2) ∧ cp_fm S (cv_lk S F E v first last (S.1 (13, 0) 13)) B F E ∧ cp_ud S (cv_lk S F E v first last (S.1 (13, 0) 13)) B F E := by
  obtain ⟨r1, r2, r3, r4, r5, r6, r7, r8, r9, r10, r11, r12⟩ := hR
  obtain ⟨a1, a2, a3, a4, a5, a6⟩ := cv_lk_A r2 (v := v) (first := first) (last := last) (gc := S.1 (13, 0) 13)
  have d1 := r2.2.2.2.2.1
  generalize hT : cv_lk S F E v first last (S.1 (13, 0) 13) = T at a1 a2 a3 a4 a5 a6
  have e2 : T.2.1 = S.2.1 := by rw [← hT]; exact cv_lk_2.1
  have e3 : T.2.2.2 = S.2.2.2 := by rw [← hT]; exact cv_lk_2.2
  have hI : ∀ b j, T.1 b j = if b = (13, 0) ∧ j = 13 then S.1 (13, 0) 13 + 1 else S.1 b j := fun b j => by rw [← hT, cv_lk_I]; rfl
  have i1 : ∀ b j, ¬ (b = (13, 0) ∧ j = 13) → T.1 b j = S.1 b j := fun b j h => by rw [hI, if_neg h]
  have i2 : T.1 (13, 0) 13 = S.1 (13, 0) 13 + 1 := by rw [hI, if_pos ⟨rfl, rfl⟩]
  have oth : ∀ s : Nat, (s ≠ 23 ∧ s ≠ 24 ∧ s ≠ 25 ∧ s ≠ 48) → s ≠ 28 → s ≠ 29 → s ≠ 30 → T.2.2.1 (s, 0) = S.2.2.1 (s, 0) := fun s h h2 h3 h4 => a6 _ (cv_ne r2 h).2.2.1 (cv_ne r2 h).2.2.2 (fun z => h2 (congrArg Prod.fst z)) (fun z => h3 (congrArg Prod.fst z)) (fun z => h4 (congrArg Prod.fst z))
  have aB : T.2.2.1 B = S.2.2.1 B := a6 B d1.1 d1.2.1 (cv_ne r2 (by decide)).1.1 (cv_ne r2 (by decide)).1.1 (cv_ne r2 (by decide)).1.1
  refine ⟨⟨?_, ?_, ?_, ?_, ?_, ?_, ?_, ?_, ?_, ?_, ?_, r12⟩, ⟨fun b j h1 h2 h3 => i1 b j (fun z => h3 ⟨z.1, .inr z.2⟩), e2, fun b h1 h2 h3 h4 h5 h6 h7 _ _ _ => a6 b h2 h3 h5 h6 h7, by rw [e3], by rw [e3], by rw [e3], by rw [e3]⟩, ?_⟩
  · unfold ty_st; rw [e2, e3]; exact r1
  · unfold cv_sh; rw [e2, e3]; exact r2
  · unfold cv_g
    rw [oth 19 (by decide) (by decide) (by decide) (by decide), oth 20 (by decide) (by decide) (by decide) (by decide), oth 21 (by decide) (by decide) (by decide) (by decide), oth 22 (by decide) (by decide) (by decide) (by decide)]
    exact r3
  · rw [i1 _ _ (by decide)]; exact r4
  · rw [i1 _ _ (by decide)]; exact r5
  · rw [oth 40 (by decide) (by decide) (by decide) (by decide), oth 41 (by decide) (by decide) (by decide) (by decide), i1 _ _ (by decide)]; exact r6
  · rw [oth 42 (by decide) (by decide) (by decide) (by decide), i1 _ _ (by decide)]; exact r7
  · rw [aB, a1, a2, a3]; exact hrv
  · rw [oth 27 (by decide) (by decide) (by decide) (by decide)]; exact r9
  · rw [oth 26 (by decide) (by decide) (by decide) (by decide), i1 _ _ (by decide)]; exact r10
  · rw [i2, a4, a5]
    refine ⟨by omega, fun i h0 h1 => ?_⟩
    simp only [mo_up]
    by_cases e : i = S.1 (13, 0) 13
    · rw [if_pos e, if_pos e]; exact ⟨⟨hv.1, by omega⟩, hgb.1, by omega⟩
    · rw [if_neg e, if_neg e]; exact r11.2 i h0 (by omega)
  · refine ⟨by rw [i1 _ _ (by decide)]; omega, by rw [i2]; omega, fun q h0 h1 => ?_, fun q h0 h1 => ?_⟩
    · rw [aB, oth 26 (by decide) (by decide) (by decide) (by decide), i1 _ _ (by decide)]
    · rw [a1, a2, a3, a4, a5, i2]
      exact cv_un_link h1 hf hx
theorem cp_R_wake (hR : cp_R S B F E n G made ns sl st k u) {w : Int → Int} {es : List Int} (he : ∀ e ∈ es, 0 ≤ e ∧ e < ns) (h1 : ∀ i, i < (u.2.2.2.1.length : Int) → w i = S.2.2.1 (42, 0) i) (h2 : mo_at w u.2.2.2.1.length (es.map (S.2.2.1 (27, 0)))) :
    cp_R (ty_sI (ty_mA S (42, 0) w) (38, 0) 7 ((u.2.2.2.1.length : Int) + es.length)) B F E n G made ns sl st k (u.1, u.2.1, u.2.2.1, u.2.2.2.1 ++ es, u.2.2.2.2) ∧ cp_fm S (ty_sI (ty_mA S (42, 0) w) (38, 0) 7 ((u.2.2.2.1.length : Int) + es.length)) B F E ∧ cp_ud S (ty_sI (ty_mA S (42, 0) w) (38, 0) 7 ((u.2.2.2.1.length : Int) + es.length)) B F E := by
  obtain ⟨r1, r2, r3, r4, r5, r6, r7, r8, r9, r10, r11, r12⟩ := hR
  generalize hT : ty_sI (ty_mA S (42, 0) w) (38, 0) 7 ((u.2.2.2.1.length : Int) + es.length) = T
  have e2 : T.2.1 = S.2.1 := by rw [← hT]; rfl
  have e3 : T.2.2.2 = S.2.2.2 := by rw [← hT]; rfl
  have i1 : ∀ b j, ¬ (b = (38, 0) ∧ j = 7) → T.1 b j = S.1 b j := fun b j h => by rw [← hT]; exact if_neg h
  have i2 : T.1 (38, 0) 7 = (u.2.2.2.1.length : Int) + es.length := by rw [← hT]; exact ty_sI_at
  have aw : T.2.2.1 (42, 0) = w := by rw [← hT]; exact ty_mA_at
  have a6 : ∀ b, b ≠ (42, 0) → T.2.2.1 b = S.2.2.1 b := fun b h => by rw [← hT]; exact if_neg h
  have nB := (cv_ne r2 (s := 42) (i := 0) (by decide)).1
  have oth : ∀ s : Nat, s ≠ 42 → T.2.2.1 (s, 0) = S.2.2.1 (s, 0) := fun s h => a6 _ (fun z => h (congrArg Prod.fst z))
  have hvo : ∀ s i, ¬ ((s, i) = (38, 0)) → True := fun _ _ _ => trivial
  refine ⟨⟨?_, ?_, ?_, ?_, ?_, ?_, ?_, ?_, ?_, ?_, ?_, r12⟩, ⟨fun b j h1 h2 h3 => i1 b j (fun z => h2 z.1), e2, fun b _ _ _ _ _ _ _ _ _ h => a6 b h, by rw [e3], by rw [e3], by rw [e3], by rw [e3]⟩, ?_⟩
  · unfold ty_st; rw [e2, e3]; exact r1
  · unfold cv_sh; rw [e2, e3]; exact r2
  · unfold cv_g
    rw [oth 19 (by decide), oth 20 (by decide), oth 21 (by decide), oth 22 (by decide)]
    exact r3
  · rw [i1 _ _ (by decide)]; exact r4
  · rw [i1 _ _ (by decide)]; exact r5
  · rw [oth 40 (by decide), oth 41 (by decide), i1 _ _ (by decide)]; exact r6
  · rw [i2, aw]
    refine ⟨by simp only [List.length_append]; omega, ?_⟩
    rw [List.map_append, mo_at_app]
    refine ⟨mo_at_eq (fun j a b => h1 j ?_) r7.2, ?_⟩
    · simp only [List.length_map] at b
      omega
    · rw [List.length_map, Int.zero_add]
      have : es.map sl = es.map (S.2.2.1 (27, 0)) := List.map_congr_left (fun e h => (r9 e (he e h).1 (he e h).2).symm)
      rw [this]
      exact h2
  · rw [a6 B nB.1, a6 F nB.2.1, a6 E nB.2.2, oth 28 (by decide)]; exact r8
  · rw [oth 27 (by decide)]; exact r9
  · rw [oth 26 (by decide), i1 _ _ (by decide)]; exact r10
  · rw [oth 29 (by decide), oth 30 (by decide), i1 _ _ (by decide)]; exact r11
  · refine ⟨by rw [i1 _ _ (by decide)]; omega, by rw [i1 _ _ (by decide)]; omega, fun q _ _ => ?_, fun q _ _ => ?_⟩
    · rw [a6 B nB.1, oth 26 (by decide), i1 _ _ (by decide)]
    · rw [a6 F nB.2.1, a6 E nB.2.2, oth 28 (by decide), oth 29 (by decide), oth 30 (by decide), i1 _ _ (by decide)]
theorem cp_R_stk (hR : cp_R S B F E n G made ns sl st k u) {l r : Int → Int} {o : Int} {ps : List (Int × Int)} (h : mo_stk l r o ps) :
    cp_R (cp_s S l r o) B F E n G made ns sl st k (ps, u.2) ∧ cp_fm S (cp_s S l r o) B F E ∧ cp_ud S (cp_s S l r o) B F E := by
  obtain ⟨r1, r2, r3, r4, r5, r6, r7, r8, r9, r10, r11, r12⟩ := hR
  generalize hT : cp_s S l r o = T
  have e2 : T.2.1 = S.2.1 := by rw [← hT]; rfl
  have e3 : T.2.2.2 = S.2.2.2 := by rw [← hT]; rfl
  have i1 : ∀ b j, ¬ (b = (38, 0) ∧ j = 5) → T.1 b j = S.1 b j := fun b j h => by rw [← hT]; exact if_neg h
  have i2 : T.1 (38, 0) 5 = o := by rw [← hT]; exact ty_sI_at
  have al : T.2.2.1 (40, 0) = l := by
    rw [← hT]
    show (ty_mA (ty_mA S (40, 0) l) (41, 0) r).2.2.1 (40, 0) = l
    rw [ty_mA_ne (by decide), ty_mA_at]
  have ar : T.2.2.1 (41, 0) = r := by
    rw [← hT]
    show (ty_mA (ty_mA S (40, 0) l) (41, 0) r).2.2.1 (41, 0) = r
    rw [ty_mA_at]
  have a6 : ∀ b, b ≠ (40, 0) → b ≠ (41, 0) → T.2.2.1 b = S.2.2.1 b := fun b h1 h2 => by
    rw [← hT]
    show (ty_mA (ty_mA S (40, 0) l) (41, 0) r).2.2.1 b = S.2.2.1 b
    rw [ty_mA_ne h2, ty_mA_ne h1]
  have nB := (cv_ne r2 (s := 40) (i := 0) (by decide)).1
  have nC := (cv_ne r2 (s := 41) (i := 0) (by decide)).1
  have oth : ∀ s : Nat, s ≠ 40 → s ≠ 41 → T.2.2.1 (s, 0) = S.2.2.1 (s, 0) := fun s h h2 => a6 _ (fun z => h (congrArg Prod.fst z)) (fun z => h2 (congrArg Prod.fst z))
  refine ⟨⟨?_, ?_, ?_, ?_, ?_, ?_, ?_, ?_, ?_, ?_, ?_, r12⟩, ⟨fun b j h1 h2 h3 => i1 b j (fun z => h2 z.1), e2, fun b _ _ _ _ _ _ _ h h2 _ => a6 b h h2, by rw [e3], by rw [e3], by rw [e3], by rw [e3]⟩, ?_⟩
  · unfold ty_st; rw [e2, e3]; exact r1
  · unfold cv_sh; rw [e2, e3]; exact r2
  · unfold cv_g
    rw [oth 19 (by decide) (by decide), oth 20 (by decide) (by decide), oth 21 (by decide) (by decide), oth 22 (by decide) (by decide)]
    exact r3
  · rw [i1 _ _ (by decide)]; exact r4
  · rw [i1 _ _ (by decide)]; exact r5
  · rw [al, ar, i2]; exact h
  · rw [oth 42 (by decide) (by decide), i1 _ _ (by decide)]; exact r7
  · rw [a6 B nB.1 nC.1, a6 F nB.2.1 nC.2.1, a6 E nB.2.2 nC.2.2, oth 28 (by decide) (by decide)]; exact r8
  · rw [oth 27 (by decide) (by decide)]; exact r9
  · rw [oth 26 (by decide) (by decide), i1 _ _ (by decide)]; exact r10
  · rw [oth 29 (by decide) (by decide), oth 30 (by decide) (by decide), i1 _ _ (by decide)]; exact r11
  · refine ⟨by rw [i1 _ _ (by decide)]; omega, by rw [i1 _ _ (by decide)]; omega, fun q _ _ => ?_, fun q _ _ => ?_⟩
    · rw [a6 B nB.1 nC.1, oth 26 (by decide) (by decide), i1 _ _ (by decide)]
    · rw [a6 F nB.2.1 nC.2.1, a6 E nB.2.2 nC.2.2, oth 28 (by decide) (by decide), oth 29 (by decide) (by decide), oth 30 (by decide) (by decide), i1 _ _ (by decide)]
theorem cp_R_le {k' : Int} (hR : cp_R S B F E n G made ns sl st k u) (h : k ≤ k') : cp_R S B F E n G made ns sl st k' u := by
  obtain ⟨r1, r2, r3, r4, r5, r6, r7, r8, r9, r10, r11, r12⟩ := hR
  exact ⟨r1, r2, r3, r4, r5, r6, r7, r8, r9, ⟨⟨r10.1.1, by omega⟩, r10.2⟩, ⟨⟨r11.1.1, by omega⟩, r11.2⟩, r12⟩
end CPS
