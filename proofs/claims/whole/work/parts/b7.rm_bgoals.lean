/-! The reference builds goals. -/
/-- the goal g stands for go -/
def rm_g1 (G : mo_G) (ta : Int → Int) (nc : Int) (A : Nat → Int → Int) (g : Int) (go : mo_Go) : Prop := (go.1 = 33 ∧ A 66 g = 0 ∧ A 69 g = go.2.2.2) ∨ (go.1 = 40 ∧ A 66 g = 1 ∧ 0 ≤ A 67 g ∧ rm_t G ta nc (A 67 g) go.2.1) ∨ ((go.1 = 61 ∧ A 66 g = 2 ∨ go.1 = 126 ∧ A 66 g = 3 ∨ go.1 = 60 ∧ A 66 g = 4 ∨ go.1 = 63 ∧ A 66 g = 5 ∧ 0 ≤ A 68 g) ∧ rm_t G ta nc (A 67 g) go.2.1 ∧ rm_t G ta nc (A 68 g) go.2.2.1)
theorem rm_g1_keep {G : mo_G} {ta ta' : Int → Int} {nc nc' : Int} {A A' : Nat → Int → Int} {g : Int} {go : mo_Go} (h : rm_g1 G ta nc A g go) (hn : nc ≤ nc') (he : ∀ c, 0 ≤ c → c < nc → ta' c = ta c) (h1 : A' 66 g = A 66 g) (h2 : A' 67 g = A 67 g) (h3 : A' 68 g = A 68 g) (h4 : A' 69 g = A 69 g) : rm_g1 G ta' nc' A' g go := by
  unfold rm_g1
  rw [h1, h2, h3, h4]
  rcases h with z | ⟨z1, z2, z3, z4⟩ | ⟨z1, z2, z3⟩
  · exact .inl z
  · exact .inr (.inl ⟨z1, z2, z3, rm_t_up z4 hn he⟩)
  · exact .inr (.inr ⟨z1, rm_t_up z2 hn he, rm_t_up z3 hn he⟩)
/-- a chain of goals, all below ng -/
def rm_td (G : mo_G) (ta : Int → Int) (nc : Int) (A : Nat → Int → Int) (ng : Int) : Int → List mo_Go → Prop
  | p, [] => p = -1
  | p, go :: gs => 0 ≤ p ∧ p < ng ∧ rm_g1 G ta nc A p go ∧ rm_td G ta nc A ng (A 70 p) gs
theorem rm_td_keep {G : mo_G} {ta ta' : Int → Int} {nc nc' : Int} {A A' : Nat → Int → Int} {ng ng' : Int} (hn : nc ≤ nc') (hg : ng ≤ ng') (he : ∀ c, 0 ≤ c → c < nc → ta' c = ta c) (hA : ∀ g, 0 ≤ g → g < ng → A' 66 g = A 66 g ∧ A' 67 g = A 67 g ∧ A' 68 g = A 68 g ∧ A' 69 g = A 69 g ∧ A' 70 g = A 70 g) : ∀ (gs : List mo_Go) (p : Int), rm_td G ta nc A ng p gs → rm_td G ta' nc' A' ng' p gs
  | [], _, h => h
  | go :: gs, p, h => by
    obtain ⟨a1, a2, a3, a4⟩ := h
    obtain ⟨b1, b2, b3, b4, b5⟩ := hA p a1 a2
    refine ⟨a1, by omega, rm_g1_keep a3 hn he b1 b2 b3 b4, ?_⟩
    rw [b5]
    exact rm_td_keep hn hg he hA gs _ a4
def bg_f (T : Int → Int) (b : Int) (g : Int × Int × Int) : mo_Go := (g.1, T g.2.1, T g.2.2, b)
/-- goals in a row, from ng0 on -/
def bg_seg (G : mo_G) (ta : Int → Int) (nc : Int) (A : Nat → Int → Int) (ng0 behind : Int) (gl : List mo_Go) : Prop := ∀ (i : Nat) (go : mo_Go), gl[i]? = some go → rm_g1 G ta nc A (ng0 + i) go ∧ A 70 (ng0 + i) = if i + 1 < gl.length then ng0 + i + 1 else behind
theorem bg_chain {G : mo_G} {ta : Int → Int} {nc : Int} {A : Nat → Int → Int} {ng behind : Int} {rest : List mo_Go} : ∀ (gl : List mo_Go) (ng0 : Int), 0 ≤ ng0 → ng0 + gl.length ≤ ng → bg_seg G ta nc A ng0 behind gl → rm_td G ta nc A ng behind rest → rm_td G ta nc A ng (if gl = [] then behind else ng0) (gl ++ rest)
  | [], _, _, _, _, h => by rw [if_pos rfl]; exact h
  | go :: gl, ng0, h0, h1, hs, h => by
    rw [if_neg (by simp)]
    obtain ⟨a1, a2⟩ := hs 0 go rfl
    rw [List.length_cons] at h1 a2
    rw [show ng0 + ((0 : Nat) : Int) = ng0 by omega] at a1 a2
    refine ⟨h0, by omega, a1, ?_⟩
    rw [a2]
    have := bg_chain gl (ng0 + 1) (by omega) (by omega) (fun i g hi => by
      have := hs (i + 1) g (by simpa using hi)
      rw [List.length_cons] at this
      rw [show ng0 + ((i + 1 : Nat) : Int) = ng0 + 1 + (i : Int) by omega] at this
      refine ⟨this.1, this.2.trans ?_⟩
      by_cases e : i + 1 < gl.length
      · rw [if_pos e, if_pos (by omega)]
      · rw [if_neg e, if_neg (by omega)]) h
    by_cases e : gl = []
    · rw [e] at this ⊢
      rw [if_pos rfl] at this
      rw [if_neg (by simp)]
      exact this
    · rw [if_neg e] at this
      have hl : 0 < gl.length := List.length_pos_iff.mpr e
      rw [if_pos (by omega)]
      exact this
section RMO
variable {L : Nat} {xs : Nat → Int32} {S : ty_S}
/-- what is known as goals are built: (I0, A0, ta0) at the beginning, (I, A, ta) now -/
def bg_inv (G : mo_G) (made : Int) (bs : Int) (t : List Int) (mp : Int → Int) (nc0 ng0 : Int) (I0 : Nat → Int) (A0 : Nat → Int → Int) (ta0 : Int → Int) (nc ng : Int) (I : Nat → Int) (A : Nat → Int → Int) (ta : Int → Int) : Prop :=
  rm_src I A bs t ∧ (∀ u, 0 ≤ u → u < 26 → A 58 u = mp u) ∧ (I 25 = nc ∧ nc0 ≤ nc) ∧ (I 28 = ng ∧ ng0 ≤ ng) ∧ (∀ k, k ≠ 12 → k ≠ 25 → k ≠ 28 → I k = I0 k) ∧
  (∀ q, q ≠ 60 → q ≠ 61 → q ≠ 62 → q ≠ 56 → q ≠ 66 → q ≠ 67 → q ≠ 68 → q ≠ 69 → q ≠ 70 → A q = A0 q) ∧ (∀ c, 0 ≤ c → c < nc0 → A 60 c = A0 60 c ∧ ta c = ta0 c ∧ A 61 c = A0 61 c) ∧ (∀ j, 0 ≤ j → j < nc0 * 3 → A 62 j = A0 62 j) ∧
  (∀ g, 0 ≤ g → g < ng0 → A 66 g = A0 66 g ∧ A 67 g = A0 67 g ∧ A 68 g = A0 68 g ∧ A 69 g = A0 69 g ∧ A 70 g = A0 70 g) ∧ ∀ c, nc0 ≤ c → c < nc → rm_cell G made ta nc A c
/-- a term is built meanwhile -/
theorem bg_term {G : mo_G} {made bs : Int} {t : List Int} {mp : Int → Int} {T : Int → Int} {nc0 ng0 : Int} {I0 : Nat → Int} {A0 : Nat → Int → Int} {ta0 : Int → Int} {nc ng : Int} {I : Nat → Int} {A : Nat → Int → Int} {ta : Int → Int} (hw : mo_wf G) (h : bg_inv G made bs t mp nc0 ng0 I0 A0 ta0 nc ng I A ta) (h0 : 0 ≤ nc0 ∧ 0 ≤ ng0) {p p' : Int} {I' : Nat → Int} {A' : Nat → Int → Int} {ta' : Int → Int} {nc' x : Int} (hp : bt_post G made T bs 0 p p' nc I A ta I' A' ta' nc' x) :
    bg_inv G made bs t mp nc0 ng0 I0 A0 ta0 nc' ng I' A' ta' ∧ (∀ g go, rm_g1 G ta nc A g go → rm_g1 G ta' nc' A' g go) ∧ (∀ q, q ≠ 60 → q ≠ 61 → q ≠ 62 → q ≠ 56 → A' q = A q) := by
  obtain ⟨a1, a2, a3, a4, a5, a6, a7, a8, a9, a10⟩ := h
  obtain ⟨b1, b2, ⟨b3, b4, b5, b6⟩, b7, b8, b9, b10, b11, b12⟩ := hp
  have hct : ∀ c, 0 ≤ c → c < nc → A' 61 c = A 61 c := fun c c0 c1 => by rw [(b7 c c0 c1).2.2, if_neg (fun w => absurd w.1 (by decide))]
  have har : ∀ j, 0 ≤ j → j < nc * 3 → A' 62 j = A 62 j := fun j j0 j1 => by rw [b8 j j0 j1, if_neg (fun w => absurd w.1 (by decide))]
  have hta : ∀ c, 0 ≤ c → c < nc → ta' c = ta c := fun c c0 c1 => (b7 c c0 c1).2.1
  refine ⟨⟨rm_src_e a1 (b1 _ (by decide) (by decide)) (b2 _ (by decide) (by decide) (by decide) (by decide)), by rw [b2 _ (by decide) (by decide) (by decide) (by decide)]; exact a2, ⟨b4, by omega⟩, ⟨(b1 _ (by decide) (by decide)).trans a4.1, a4.2⟩, fun k h1 h2 h3 => (b1 k h1 h2).trans (a5 k h1 h2 h3), fun q h1 h2 h3 h4 h5 h6 h7 h8 h9 => (b2 q h1 h2 h3 h4).trans (a6 q h1 h2 h3 h4 h5 h6 h7 h8 h9), fun c c0 c1 => ?_, fun j j0 j1 => (har j j0 (by omega)).trans (a8 j j0 j1), fun g g0 g1 => ?_, fun c c0 c1 => ?_⟩, fun g go hg => ?_, b2⟩
  · obtain ⟨q1, q2, q3⟩ := a7 c c0 c1
    exact ⟨(b7 c c0 (by omega)).1.trans q1, (hta c c0 (by omega)).trans q2, (hct c c0 (by omega)).trans q3⟩
  · have e := fun q h1 h2 h3 h4 => congrFun (b2 q h1 h2 h3 h4) g
    rw [e _ (by decide) (by decide) (by decide) (by decide), e _ (by decide) (by decide) (by decide) (by decide), e _ (by decide) (by decide) (by decide) (by decide), e _ (by decide) (by decide) (by decide) (by decide), e _ (by decide) (by decide) (by decide) (by decide)]
    exact a9 g g0 g1
  · by_cases e : c < nc
    · have hcell := a10 c c0 e
      have hax : mo_a G (ta c) ≤ 3 := (hw _ hcell.1.2.1).2.2.1.2
      exact rm_cell_keep hcell ⟨by omega, e⟩ b5 hta (b7 c (by omega) e).1 (hct c (by omega) e) (fun k k0 k1 => har _ (by omega) (by omega)) hax
    · exact b10 c (by omega) c1
  · have e := fun q h1 h2 h3 h4 => congrFun (b2 q h1 h2 h3 h4) g
    exact rm_g1_keep hg b5 hta (e _ (by decide) (by decide) (by decide) (by decide)) (e _ (by decide) (by decide) (by decide) (by decide)) (e _ (by decide) (by decide) (by decide) (by decide)) (e _ (by decide) (by decide) (by decide) (by decide))
/-- source moves -/
theorem bg_src {G : mo_G} {made bs : Int} {t : List Int} {mp : Int → Int} {nc0 ng0 : Int} {I0 : Nat → Int} {A0 : Nat → Int → Int} {ta0 : Int → Int} {nc ng : Int} {I : Nat → Int} {A : Nat → Int → Int} {ta : Int → Int} (h : bg_inv G made bs t mp nc0 ng0 I0 A0 ta0 nc ng I A ta) {v : Int} : bg_inv G made bs t mp nc0 ng0 I0 A0 ta0 nc ng (rm_u I 12 v) A ta := by
  obtain ⟨a1, a2, a3, a4, a5, a6⟩ := h
  exact ⟨rm_src_e a1 rfl rfl, a2, a3, a4, fun k h1 h2 h3 => (if_neg h1).trans (a5 k h1 h2 h3), a6⟩
/-- a goal is made, in the row -/
theorem bg_goal {G : mo_G} {made bs : Int} {t : List Int} {mp : Int → Int} {nc0 ng0 : Int} {I0 : Nat → Int} {A0 : Nat → Int → Int} {ta0 : Int → Int} {nc ng : Int} {I : Nat → Int} {A : Nat → Int → Int} {ta : Int → Int} (h : bg_inv G made bs t mp nc0 ng0 I0 A0 ta0 nc ng I A ta) {k x y b n : Int} : bg_inv G made bs t mp nc0 ng0 I0 A0 ta0 nc (ng + 1) (rm_u I 28 (ng + 1)) (rm_w (rm_w (rm_w (rm_w (rm_w A 66 ng k) 67 ng x) 68 ng y) 69 ng b) 70 ng n) ta := by
  obtain ⟨a1, a2, a3, a4, a5, a6, a7, a8, a9, a10⟩ := h
  have e : ∀ q j, q ≠ 66 → q ≠ 67 → q ≠ 68 → q ≠ 69 → q ≠ 70 → (rm_w (rm_w (rm_w (rm_w (rm_w A 66 ng k) 67 ng x) 68 ng y) 69 ng b) 70 ng n) q j = A q j := fun q j h1 h2 h3 h4 h5 => by simp [rm_w, h1, h2, h3, h4, h5]
  have e2 : ∀ q j, j ≠ ng → (rm_w (rm_w (rm_w (rm_w (rm_w A 66 ng k) 67 ng x) 68 ng y) 69 ng b) 70 ng n) q j = A q j := fun q j h1 => by simp [rm_w, h1]
  have ef : ∀ q, q ≠ 66 → q ≠ 67 → q ≠ 68 → q ≠ 69 → q ≠ 70 → (rm_w (rm_w (rm_w (rm_w (rm_w A 66 ng k) 67 ng x) 68 ng y) 69 ng b) 70 ng n) q = A q := fun q h1 h2 h3 h4 h5 => by funext j; exact e q j h1 h2 h3 h4 h5
  refine ⟨rm_src_e a1 rfl (ef _ (by decide) (by decide) (by decide) (by decide) (by decide)), fun u u0 u1 => by rw [ef _ (by decide) (by decide) (by decide) (by decide) (by decide)]; exact a2 u u0 u1, a3, ⟨if_pos rfl, by omega⟩, fun k h1 h2 h3 => (if_neg h3).trans (a5 k h1 h2 h3), fun q h1 h2 h3 h4 h5 h6 h7 h8 h9 => (ef q h5 h6 h7 h8 h9).trans (a6 q h1 h2 h3 h4 h5 h6 h7 h8 h9), fun c c0 c1 => ?_, fun j j0 j1 => ?_, fun g g0 g1 => ?_, fun c c0 c1 => ?_⟩
  · rw [ef _ (by decide) (by decide) (by decide) (by decide) (by decide), ef _ (by decide) (by decide) (by decide) (by decide) (by decide)]
    exact a7 c c0 c1
  · rw [ef _ (by decide) (by decide) (by decide) (by decide) (by decide)]
    exact a8 j j0 j1
  · rw [e2 _ _ (by omega), e2 _ _ (by omega), e2 _ _ (by omega), e2 _ _ (by omega), e2 _ _ (by omega)]
    exact a9 g g0 g1
  · have hc := a10 c c0 c1
    unfold rm_cell at hc ⊢
    rw [ef 60 (by decide) (by decide) (by decide) (by decide) (by decide), ef 61 (by decide) (by decide) (by decide) (by decide) (by decide), ef 62 (by decide) (by decide) (by decide) (by decide) (by decide)]
    exact hc
/-- goals are linked -/
theorem bg_link {G : mo_G} {made bs : Int} {t : List Int} {mp : Int → Int} {nc0 ng0 : Int} {I0 : Nat → Int} {A0 : Nat → Int → Int} {ta0 : Int → Int} {nc ng : Int} {I : Nat → Int} {A : Nat → Int → Int} {ta : Int → Int} (h : bg_inv G made bs t mp nc0 ng0 I0 A0 ta0 nc ng I A ta) {i v : Int} (hi : ng0 ≤ i) : bg_inv G made bs t mp nc0 ng0 I0 A0 ta0 nc ng I (rm_w A 70 i v) ta := by
  obtain ⟨a1, a2, a3, a4, a5, a6, a7, a8, a9, a10⟩ := h
  have ef : ∀ q, q ≠ 70 → (rm_w A 70 i v) q = A q := fun q h5 => by funext j; exact if_neg (fun w => h5 w.1)
  refine ⟨rm_src_e a1 rfl (ef _ (by decide)), fun u u0 u1 => by rw [ef _ (by decide)]; exact a2 u u0 u1, a3, a4, a5, fun q h1 h2 h3 h4 h5 h6 h7 h8 h9 => (ef q h9).trans (a6 q h1 h2 h3 h4 h5 h6 h7 h8 h9), fun c c0 c1 => ?_, fun j j0 j1 => ?_, fun g g0 g1 => ?_, fun c c0 c1 => ?_⟩
  · rw [ef _ (by decide), ef _ (by decide)]
    exact a7 c c0 c1
  · rw [ef _ (by decide)]
    exact a8 j j0 j1
  · rw [ef _ (by decide), ef _ (by decide), ef _ (by decide), ef _ (by decide)]
    obtain ⟨q1, q2, q3, q4, q5⟩ := a9 g g0 g1
    exact ⟨q1, q2, q3, q4, (if_neg (by omega)).trans q5⟩
  · have hc := a10 c c0 c1
    unfold rm_cell at hc ⊢
    rw [ef 60 (by decide), ef 61 (by decide), ef 62 (by decide)]
    exact hc
end RMO
