/-! The reference's whole state against the search as mathematics. -/
def rx_V (G : mo_G) (sl al ar rl ta : Int → Int) (A R : Nat → Int → Int) (nc na : Int) (V : mo_V) : Prop := (∀ c, 0 ≤ c → c < nc → rm_cell G V.1 ta nc A c) ∧ (∀ v, 0 ≤ v → v < V.1 → rm_b ta nc (R 0 v) (V.2.1 v)) ∧ cv_rv V.2.1 (R 1) (R 2) (R 3) V.1 V.2.1 V.2.2.1 ∧ (∀ e, 0 ≤ e → e < V.2.2.2.1 → 0 ≤ A 73 e ∧ rm_t G ta nc (A 73 e) (sl e)) ∧ rx_A G ta nc A (R 4) al ar rl na V.2.2.2.2.2.1 V.2.2.2.2.2.2
def rx_C (G : mo_G) (sl al ar rl ta : Int → Int) (A : Nat → Int → Int) (TL st : Int) : Int → Int → Int → Int → List mo_Ch → Prop
  | _, _, _, _, [] => True
  | nc, ng, na, tl, (t, i, todo, V) :: cs => ∃ x nc1 ng1 na1 tl1, (A 82 cs.length = x ∧ A 83 cs.length = i ∧ A 85 cs.length = nc1 ∧ A 86 cs.length = V.1 ∧ A 87 cs.length = ng1 ∧ A 88 cs.length = tl1 ∧ A 89 cs.length = V.2.2.2.1 ∧ A 90 cs.length = na1) ∧ (0 ≤ nc1 ∧ nc1 ≤ nc ∧ nc1 ≤ 24 * st) ∧ (0 ≤ ng1 ∧ ng1 ≤ ng ∧ ng1 ≤ 24 * st + V.2.2.2.2.1.length) ∧ (0 ≤ na1 ∧ na1 ≤ na) ∧ (0 ≤ tl1 ∧ tl1 ≤ tl) ∧ (0 ≤ x ∧ rm_t G ta nc1 x t) ∧ rm_td G ta nc1 A ng1 (A 84 cs.length) todo ∧ rx_V G sl al ar rl ta A (ru (A 71) (A 72) tl1 (TL - tl1).toNat (rr A)) nc1 na1 V ∧ rx_C G sl al ar rl ta A TL st nc1 ng1 na1 tl1 cs
/-- places within the bounds -/
def rx_in (made ns na : Int) (r : Nat) (i : Int) : Prop := 0 ≤ i ∧ (r ≤ 2 ∧ i < made ∨ r = 3 ∧ i < ns ∨ r = 4 ∧ i < na)
/-- all that lies below the bounds stays -/
def rx_k (made ns na nc ng nch TL : Int) (ta : Int → Int) (A : Nat → Int → Int) (TL' : Int) (ta' : Int → Int) (A' : Nat → Int → Int) : Prop :=
  (∀ c, 0 ≤ c → c < nc → ta' c = ta c ∧ A' 60 c = A 60 c ∧ A' 61 c = A 61 c) ∧ (∀ j, 0 ≤ j → j < nc * 3 → A' 62 j = A 62 j) ∧ (∀ g, 0 ≤ g → g < ng → A' 66 g = A 66 g ∧ A' 67 g = A 67 g ∧ A' 68 g = A 68 g ∧ A' 69 g = A 69 g ∧ A' 70 g = A 70 g) ∧ (∀ e, 0 ≤ e → e < ns → A' 73 e = A 73 e) ∧ (∀ k, 0 ≤ k → k < na → A' 75 k = A 75 k ∧ A' 76 k = A 76 k) ∧
  (∀ k, 0 ≤ k → k < nch → A' 82 k = A 82 k ∧ A' 83 k = A 83 k ∧ A' 84 k = A 84 k ∧ A' 85 k = A 85 k ∧ A' 86 k = A 86 k ∧ A' 87 k = A 87 k ∧ A' 88 k = A 88 k ∧ A' 89 k = A 89 k ∧ A' 90 k = A 90 k) ∧
  ∀ to, 0 ≤ to → to ≤ TL → ∀ r i, rx_in made ns na r i → ru (A' 71) (A' 72) to (TL' - to).toNat (rr A') r i = ru (A 71) (A 72) to (TL - to).toNat (rr A) r i
theorem rx_k.down {made ns na nc ng nch TL TL' : Int} {ta ta' : Int → Int} {A A' : Nat → Int → Int} (h : rx_k made ns na nc ng nch TL ta A TL' ta' A') {made1 ns1 na1 nc1 ng1 nch1 : Int} (h1 : made1 ≤ made) (h2 : ns1 ≤ ns) (h3 : na1 ≤ na) (h4 : nc1 ≤ nc) (h5 : ng1 ≤ ng) (h6 : nch1 ≤ nch) : rx_k made1 ns1 na1 nc1 ng1 nch1 TL ta A TL' ta' A' := by
  obtain ⟨a1, a2, a3, a4, a5, a6, a7⟩ := h
  refine ⟨fun c c0 c1 => a1 c c0 (by omega), fun j j0 j1 => a2 j j0 (by omega), fun g g0 g1 => a3 g g0 (by omega), fun e e0 e1 => a4 e e0 (by omega), fun k k0 k1 => a5 k k0 (by omega), fun k k0 k1 => a6 k k0 (by omega), fun to t0 t1 r i hi => a7 to t0 t1 r i ⟨hi.1, ?_⟩⟩
  rcases hi.2 with z | z | z
  · exact .inl ⟨z.1, by omega⟩
  · exact .inr (.inl ⟨z.1, by omega⟩)
  · exact .inr (.inr ⟨z.1, by omega⟩)
theorem rx_A_k {G : mo_G} {ta ta' : Int → Int} {nc nc' : Int} {A A' : Nat → Int → Int} {gone gone' : Int → Int} {al ar rl al' ar' rl' : Int → Int} {na an : Int} {aw : Int → Bool} (h : rx_A G ta nc A gone al ar rl na an aw) (hn : nc ≤ nc') (hc : ∀ c, 0 ≤ c → c < nc → ta' c = ta c) (h1 : ∀ k, 0 ≤ k → k < na → A' 75 k = A 75 k ∧ A' 76 k = A 76 k) (h2 : ∀ k, 0 ≤ k → k < na → gone' k = gone k) (h3 : ∀ i, 0 ≤ i → i < an → al' i = al i ∧ ar' i = ar i) (h4 : ∀ k, 0 ≤ k → k < na → rl' k = rl k) : rx_A G ta' nc' A' gone' al' ar' rl' na an aw := by
  obtain ⟨a1, a2, a3, a4⟩ := h
  refine ⟨a1, fun k k0 k1 => ?_, fun j k j0 jk k1 => ?_, fun i i0 i1 hi => ?_⟩
  · obtain ⟨b1, b2, b3, b4⟩ := a2 k k0 k1
    obtain ⟨c1, c2⟩ := h3 (rl k) b1.1 b1.2
    rw [h4 k k0 k1, (h1 k k0 k1).1, (h1 k k0 k1).2, h2 k k0 k1, c1, c2]
    exact ⟨b1, rm_t_up b2 hn hc, rm_t_up b3 hn hc, b4⟩
  · rw [h4 j j0 (by omega), h4 k (by omega) k1]
    exact a3 j k j0 jk k1
  · obtain ⟨k, k0, k1, k2⟩ := a4 i i0 i1 hi
    exact ⟨k, k0, k1, by rw [h4 k k0 k1]; exact k2⟩
theorem rx_V_k {G : mo_G} (hw : mo_wf G) {sl al ar rl sl' al' ar' rl' ta ta' : Int → Int} {A A' R R' : Nat → Int → Int} {nc nc' na : Int} {V : mo_V} (h : rx_V G sl al ar rl ta A R nc na V) (hcw : mo_cw V.1 V.2.2.2.1 V.2.1 V.2.2.1 V.2.2.2.2.1) (hn0 : 0 ≤ nc) (hn : nc ≤ nc') (h1 : ∀ c, 0 ≤ c → c < nc → ta' c = ta c ∧ A' 60 c = A 60 c ∧ A' 61 c = A 61 c) (h2 : ∀ j, 0 ≤ j → j < nc * 3 → A' 62 j = A 62 j) (hnew : ∀ c, nc ≤ c → c < nc' → rm_cell G V.1 ta' nc' A' c) (h3 : ∀ e, 0 ≤ e → e < V.2.2.2.1 → A' 73 e = A 73 e ∧ sl' e = sl e) (h4 : ∀ k, 0 ≤ k → k < na → (A' 75 k = A 75 k ∧ A' 76 k = A 76 k) ∧ rl' k = rl k) (h5 : ∀ i, 0 ≤ i → i < V.2.2.2.2.2.1 → al' i = al i ∧ ar' i = ar i) (h6 : ∀ r i, rx_in V.1 V.2.2.2.1 na r i → R' r i = R r i) : rx_V G sl' al' ar' rl' ta' A' R' nc' na V := by
  obtain ⟨a1, a2, a3, a4, a5⟩ := h
  have hc : ∀ c, 0 ≤ c → c < nc → ta' c = ta c := fun c c0 c1 => (h1 c c0 c1).1
  refine ⟨fun c c0 c1 => ?_, fun v v0 v1 => ?_, ⟨fun _ _ _ => rfl, fun v v0 v1 hv => ?_⟩, fun e e0 e1 => ?_, ?_⟩
  · by_cases e : c < nc
    · have hcell := a1 c c0 e
      exact rm_cell_keep hcell ⟨c0, e⟩ hn hc (h1 c c0 e).2.1 (h1 c c0 e).2.2 (fun k k0 k1 => h2 _ (by omega) (by omega)) (hw _ hcell.1.2.1).2.2.1.2
    · exact hnew c (by omega) c1
  · rw [h6 0 v ⟨v0, .inl ⟨by decide, v1⟩⟩]
    exact rm_b_up (a2 v v0 v1) hn hc
  · obtain ⟨l1, l2⟩ := a3.2 v v0 v1 hv
    rw [h6 1 v ⟨v0, .inl ⟨by decide, v1⟩⟩, h6 2 v ⟨v0, .inl ⟨by decide, v1⟩⟩]
    refine ⟨mo_lnk_eq (fun e he => ?_) l1, l2⟩
    have := (hcw.1 v v0 v1 hv).1 e he
    exact h6 3 e ⟨this.1, .inr (.inl ⟨rfl, this.2⟩)⟩
  · rw [(h3 e e0 e1).1, (h3 e e0 e1).2]
    exact ⟨(a4 e e0 e1).1, rm_t_up (a4 e e0 e1).2 hn hc⟩
  · exact rx_A_k a5 hn hc (fun k k0 k1 => (h4 k k0 k1).1) (fun k k0 k1 => h6 4 k ⟨k0, .inr (.inr ⟨rfl, k1⟩)⟩) h5 (fun k k0 k1 => (h4 k k0 k1).2)
theorem rx_C_k {P : mo_P} (hw : mo_wf P.1) {sl al ar rl sl' al' ar' rl' ta ta' : Int → Int} {A A' : Nat → Int → Int} {TL TL' st0 st st' : Int} (hst : st ≤ st') (hTL : TL ≤ TL') : ∀ (cs : List mo_Ch) (md ns an nc ng na tl nc' ng' na' tl' : Int), mo_CI P sl al ar st0 md ns an cs → rx_C P.1 sl al ar rl ta A TL st nc ng na tl cs → rx_k md ns na nc ng cs.length TL ta A TL' ta' A' → (∀ e, 0 ≤ e → e < ns → sl' e = sl e) → (∀ i, 0 ≤ i → i < an → al' i = al i ∧ ar' i = ar i) → (∀ k, 0 ≤ k → k < na → rl' k = rl k) → nc ≤ nc' → ng ≤ ng' → na ≤ na' → tl ≤ tl' → tl ≤ TL → rx_C P.1 sl' al' ar' rl' ta' A' TL' st' nc' ng' na' tl' cs
  | [], _, _, _, _, _, _, _, _, _, _, _, _, _, _, _, _, _, _, _, _, _, _ => trivial
  | (t, i, todo, V) :: cs, md, ns, an, nc, ng, na, tl, nc', ng', na', tl', hCI, h, hk, h1, h2, h3, hn, hg, ha, ht, htl => by
    obtain ⟨a1, a2, a3, a4⟩ := hCI
    obtain ⟨x, nc1, ng1, na1, tl1, b1, b2, b3, b4, b5, b6, b7, b8, b9⟩ := h
    obtain ⟨k1, k2, k3, k4, k5, k6, k7⟩ := hk
    have hrow := k6 cs.length (by omega) (by rw [List.length_cons]; omega)
    refine ⟨x, nc1, ng1, na1, tl1, ?_, by omega, by omega, by omega, by omega, ⟨b6.1, rm_t_up b6.2 (Int.le_refl _) (fun c c0 c1 => (k1 c c0 (by omega)).1)⟩, ?_, ?_, ?_⟩
    · obtain ⟨r1, r2, r3, r4, r5, r6, r7, r8, r9⟩ := hrow
      rw [r1, r2, r4, r5, r6, r7, r8, r9]
      exact b1
    · rw [hrow.2.2.1]
      exact rm_td_keep (Int.le_refl _) (Int.le_refl _) (fun c c0 c1 => (k1 c c0 (by omega)).1) (fun g g0 g1 => k3 g g0 (by omega)) _ _ b7
    · refine rx_V_k hw b8 a3.2.2.1 b2.1 (Int.le_refl _) (fun c c0 c1 => k1 c c0 (by omega)) (fun j j0 j1 => k2 j j0 (by omega)) (fun c c0 c1 => by omega) (fun e e0 e1 => ⟨k4 e e0 (by omega), h1 e e0 (by omega)⟩) (fun k k0 k1' => ⟨k5 k k0 (by omega), h3 k k0 (by omega)⟩) (fun j j0 j1 => h2 j j0 (by omega)) (fun r j hj => k7 tl1 b5.1 (by omega) r j ⟨hj.1, ?_⟩)
      rcases hj.2 with z | z | z
      · exact .inl ⟨z.1, by omega⟩
      · exact .inr (.inl ⟨z.1, by omega⟩)
      · exact .inr (.inr ⟨z.1, by omega⟩)
    · exact rx_C_k hw hst hTL cs V.1 V.2.2.2.1 V.2.2.2.2.2.1 nc1 ng1 na1 tl1 nc1 ng1 na1 tl1 a4 b9 (rx_k.down ⟨k1, k2, k3, k4, k5, k6, k7⟩ a1.1 a1.2.2.1 b4.2 b2.2.1 b3.2.1 (by rw [List.length_cons]; omega)) (fun e e0 e1 => h1 e e0 (by omega)) (fun j j0 j1 => h2 j j0 (by omega)) (fun k k0 k1' => h3 k k0 (by omega)) (Int.le_refl _) (Int.le_refl _) (Int.le_refl _) (Int.le_refl _) (by omega)
/-- the whole of it -/
def rx_S (I : Nat → Int) (A : Nat → Int → Int) (G : mo_G) (ta rl : Int → Int) (nc ng na : Int) (M : mo_M) : Prop :=
  (I 11 = 0 ∧ I 40 = 0) ∧ (I 30 = M.1 ∧ 0 ≤ M.1 ∧ M.1 ≤ 500) ∧ ((0 ≤ I 32 ∧ I 32 ≤ 4 * M.1) ∧ rt_ok (A 71) (I 32)) ∧ (I 26 = M.2.2.2.2.2.1.1 ∧ I 27 = M.2.1) ∧ (I 25 = nc ∧ 0 ≤ nc ∧ nc ≤ 24 + 24 * M.1) ∧ (I 28 = ng ∧ 0 ≤ ng ∧ ng ≤ 24 + 24 * M.1 + M.2.2.2.2.2.1.2.2.2.2.1.length) ∧ I 34 = M.2.2.2.2.2.1.2.2.2.1 ∧ I 35 = na ∧ I 33 = M.2.2.2.2.2.2.2.1.length ∧ I 31 = M.2.2.2.2.2.2.2.2 ∧
  rx_V G M.2.2.1 M.2.2.2.1 M.2.2.2.2.1 rl ta A (rr A) nc na M.2.2.2.2.2.1 ∧ rx_C G M.2.2.1 M.2.2.2.1 M.2.2.2.2.1 rl ta A (I 32) M.1 nc ng na (I 32) M.2.2.2.2.2.2.2.1
/-- what the search never touches -/
def rx_K (I : Nat → Int) (A : Nat → Int → Int) (I' : Nat → Int) (A' : Nat → Int → Int) : Prop := (I' 7 = I 7 ∧ I' 8 = I 8 ∧ I' 9 = I 9 ∧ I' 38 = I 38) ∧ A' 53 = A 53 ∧ A' 54 = A 54 ∧ A' 55 = A 55 ∧ A' 59 = A 59
theorem rx_K.refl {I : Nat → Int} {A : Nat → Int → Int} : rx_K I A I A := ⟨⟨rfl, rfl, rfl, rfl⟩, rfl, rfl, rfl, rfl⟩
theorem rx_K.trans {I I1 I2 : Nat → Int} {A A1 A2 : Nat → Int → Int} (h : rx_K I A I1 A1) (g : rx_K I1 A1 I2 A2) : rx_K I A I2 A2 := ⟨⟨g.1.1.trans h.1.1, g.1.2.1.trans h.1.2.1, g.1.2.2.1.trans h.1.2.2.1, g.1.2.2.2.trans h.1.2.2.2⟩, g.2.1.trans h.2.1, g.2.2.1.trans h.2.2.1, g.2.2.2.1.trans h.2.2.2.1, g.2.2.2.2.trans h.2.2.2.2⟩
theorem rn_f.K {ng : Int} {I I' : Nat → Int} {A A' : Nat → Int → Int} (h : rn_f ng I A I' A') : rx_K I A I' A' := by
  obtain ⟨h1, h2, -, -⟩ := h
  have i := fun k a1 a2 a3 a4 a5 a6 a7 a8 => h1 k a1 a2 a3 a4 a5 a6 a7 a8
  refine ⟨⟨?_, ?_, ?_, ?_⟩, ?_, ?_, ?_, ?_⟩
  · exact h1 _ (by decide) (by decide) (by decide) (by decide) (by decide) (by decide) (by decide) (by decide)
  · exact h1 _ (by decide) (by decide) (by decide) (by decide) (by decide) (by decide) (by decide) (by decide)
  · exact h1 _ (by decide) (by decide) (by decide) (by decide) (by decide) (by decide) (by decide) (by decide)
  · exact h1 _ (by decide) (by decide) (by decide) (by decide) (by decide) (by decide) (by decide) (by decide)
  · exact h2 _ (by decide) (by decide) (by decide) (by decide) (by decide) (by decide) (by decide) (by decide) (by decide) (by decide) (by decide) (by decide) (by decide) (by decide) (by decide) (by decide)
  · exact h2 _ (by decide) (by decide) (by decide) (by decide) (by decide) (by decide) (by decide) (by decide) (by decide) (by decide) (by decide) (by decide) (by decide) (by decide) (by decide) (by decide)
  · exact h2 _ (by decide) (by decide) (by decide) (by decide) (by decide) (by decide) (by decide) (by decide) (by decide) (by decide) (by decide) (by decide) (by decide) (by decide) (by decide) (by decide)
  · exact h2 _ (by decide) (by decide) (by decide) (by decide) (by decide) (by decide) (by decide) (by decide) (by decide) (by decide) (by decide) (by decide) (by decide) (by decide) (by decide) (by decide)
/-- unify leaves all choices as they are -/
theorem rn_f.k {ng : Int} {I I' : Nat → Int} {A A' : Nat → Int → Int} (h : rn_f ng I A I' A') {made ns na nc nch : Int} {ta : Int → Int} : rx_k made ns na nc ng nch (I 32) ta A (I' 32) ta A' := by
  obtain ⟨h1, h2, h3, h4⟩ := h
  have e := fun q a1 a2 a3 a4 a5 a6 a7 a8 a9 a10 a11 a12 a13 a14 a15 a16 i => congrFun (h2 q a1 a2 a3 a4 a5 a6 a7 a8 a9 a10 a11 a12 a13 a14 a15 a16) i
  refine ⟨fun c _ _ => ⟨rfl, ?_, ?_⟩, fun j _ _ => ?_, h3, fun _ _ _ => ?_, fun _ _ _ => ⟨?_, ?_⟩, fun _ _ _ => ⟨?_, ?_, ?_, ?_, ?_, ?_, ?_, ?_, ?_⟩, fun to t0 t1 r i _ => by rw [h4.2.2 to t0 t1]⟩
  all_goals exact e _ (by decide) (by decide) (by decide) (by decide) (by decide) (by decide) (by decide) (by decide) (by decide) (by decide) (by decide) (by decide) (by decide) (by decide) (by decide) (by decide) _
