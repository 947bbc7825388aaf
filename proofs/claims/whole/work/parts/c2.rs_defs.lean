/-! The reference makes terms same: what holds meanwhile. -/
def rm_stk (G : mo_G) (ta : Int → Int) (nc : Int) (l r : Int → Int) : Int → List (Int × Int) → Prop
  | n, [] => n = 0
  | n, p :: ps => 0 < n ∧ rm_t G ta nc (l (n - 1)) p.1 ∧ rm_t G ta nc (r (n - 1)) p.2 ∧ rm_stk G ta nc l r (n - 1) ps
theorem rm_stk_len {G : mo_G} {ta : Int → Int} {nc : Int} {l r : Int → Int} : ∀ {ps : List (Int × Int)} {n : Int}, rm_stk G ta nc l r n ps → n = ps.length
  | [], n, h => h
  | p :: ps, n, h => by
    have := rm_stk_len h.2.2.2
    rw [List.length_cons]
    omega
theorem rm_stk_eq {G : mo_G} {ta : Int → Int} {nc : Int} {l r l' r' : Int → Int} : ∀ {ps : List (Int × Int)} {n : Int}, (∀ i, 0 ≤ i → i < n → l' i = l i ∧ r' i = r i) → rm_stk G ta nc l r n ps → rm_stk G ta nc l' r' n ps
  | [], _, _, h => h
  | p :: ps, n, e, h => by
    obtain ⟨a1, a2, a3, a4⟩ := h
    obtain ⟨e1, e2⟩ := e (n - 1) (by omega) (by omega)
    exact ⟨a1, by rw [e1]; exact a2, by rw [e2]; exact a3, rm_stk_eq (fun i h0 h1 => e i h0 (by omega)) a4⟩
theorem rm_stk_put {G : mo_G} {ta : Int → Int} {nc : Int} {l r : Int → Int} {n x y : Int} {p : Int × Int} {ps : List (Int × Int)} (h : rm_stk G ta nc l r n ps) (hx : rm_t G ta nc x p.1) (hy : rm_t G ta nc y p.2) : rm_stk G ta nc (mo_up l n x) (mo_up r n y) (n + 1) (p :: ps) := by
  have hn := rm_stk_len h
  refine ⟨by omega, ?_, ?_, ?_⟩
  · rw [show n + 1 - 1 = n by omega]
    simp only [mo_up, if_pos]
    exact hx
  · rw [show n + 1 - 1 = n by omega]
    simp only [mo_up, if_pos]
    exact hy
  · rw [show n + 1 - 1 = n by omega]
    exact rm_stk_eq (fun i h0 h1 => ⟨if_neg (by omega), if_neg (by omega)⟩) h
/-- chains that woke, one behind the other -/
def rm_wk (w sn : Int → Int) (n : Int) (wk : List Int) : Prop := ∃ Ls : List (List Int), n = Ls.length ∧ Ls.flatten = wk ∧ ∀ (i : Nat) (l : List Int), Ls[i]? = some l → mo_lnk sn (w i) l
theorem rm_wk_nil {w sn : Int → Int} : rm_wk w sn 0 [] := ⟨[], rfl, rfl, fun i l h => by simp at h⟩
theorem rm_wk_sn {w sn sn' : Int → Int} {n : Int} {wk : List Int} (h : rm_wk w sn n wk) (he : ∀ e ∈ wk, sn' e = sn e) : rm_wk w sn' n wk := by
  obtain ⟨Ls, h1, h2, h3⟩ := h
  refine ⟨Ls, h1, h2, fun i l hi => mo_lnk_eq (fun e hm => he e ?_) (h3 i l hi)⟩
  rw [← h2]
  exact List.mem_flatten.mpr ⟨l, List.mem_of_getElem? hi, hm⟩
theorem rm_wk_put {w sn : Int → Int} {n p : Int} {wk l : List Int} (h : rm_wk w sn n wk) (hl : mo_lnk sn p l) : rm_wk (mo_up w n p) sn (n + 1) (wk ++ l) := by
  obtain ⟨Ls, h1, h2, h3⟩ := h
  refine ⟨Ls ++ [l], by rw [List.length_append]; simp only [List.length_cons, List.length_nil]; omega, by rw [List.flatten_append, h2]; simp, fun i m hi => ?_⟩
  by_cases e : i < Ls.length
  · rw [List.getElem?_append_left e] at hi
    have := h3 i m hi
    have e2 : mo_up w n p i = w i := if_neg (by omega)
    rw [e2]
    exact this
  · rw [List.getElem?_append_right (by omega)] at hi
    have ei : i = Ls.length := by
      by_cases q : i - Ls.length = 0
      · omega
      · rw [List.getElem?_eq_none (by simp; omega)] at hi
        exact absurd hi (by simp)
    subst ei
    simp only [Nat.sub_self, List.getElem?_cons_zero, Option.some.injEq] at hi
    subst hi
    have e2 : mo_up w n p (Ls.length : Int) = p := if_pos h1.symm
    rw [e2]
    exact hl
/-- the reference's rows while terms are made same -/
def rs_R (I : Nat → Int) (A : Nat → Int → Int) (G : mo_G) (ta : Int → Int) (nc made ns : Int) (tr : Bool) (st thr : Int) (u : mo_U) : Prop :=
  (I 30 = st ∧ 0 ≤ st ∧ st ≤ 500) ∧ I 11 = thr ∧ ((0 ≤ I 32 ∧ I 32 ≤ 4 * st) ∧ rt_ok (A 71) (I 32)) ∧ rm_stk G ta nc (A 78) (A 79) (I 36) u.1 ∧
  (I 39 = (if u.2.2.2.2 = true then 1 else 0) ∧ I 40 = (if tr = true then 1 else 0)) ∧ ((0 ≤ I 37 ∧ I 37 ≤ st) ∧ (tr = false → rm_wk (A 80) (A 74) (I 37) u.2.2.2.1)) ∧
  (∀ v, 0 ≤ v → v < made → rm_b ta nc (A 63 v) (u.2.1 v)) ∧ cv_rv u.2.1 (A 64) (A 65) (A 74) made u.2.1 u.2.2.1 ∧ (∀ c, 0 ≤ c → c < nc → rm_cell G made ta nc A c) ∧ (0 ≤ nc ∧ nc ≤ 24000) ∧ (0 ≤ made ∧ made ≤ 13000) ∧ 0 ≤ ns ∧ ns ≤ 500
/-- what is left alone -/
def rs_fm (tr : Bool) (I : Nat → Int) (A : Nat → Int → Int) (I' : Nat → Int) (A' : Nat → Int → Int) : Prop := (∀ k, k ≠ 30 → k ≠ 11 → k ≠ 32 → k ≠ 36 → k ≠ 39 → k ≠ 37 → I' k = I k) ∧ (∀ q, q ≠ 71 → q ≠ 72 → q ≠ 63 → q ≠ 64 → q ≠ 65 → q ≠ 74 → q ≠ 78 → q ≠ 79 → q ≠ 80 → A' q = A q) ∧ (tr = true → A' 64 = A 64 ∧ A' 65 = A 65 ∧ A' 74 = A 74 ∧ A' 80 = A 80) ∧ rt_ud A (I 32) A' (I' 32)
theorem rs_fm.refl {tr : Bool} {I : Nat → Int} {A : Nat → Int → Int} : rs_fm tr I A I A := ⟨fun _ _ _ _ _ _ _ => rfl, fun _ _ _ _ _ _ _ _ _ _ => rfl, fun _ => ⟨rfl, rfl, rfl, rfl⟩, .refl⟩
theorem rs_fm.trans {tr : Bool} {I I1 I2 : Nat → Int} {A A1 A2 : Nat → Int → Int} (h : rs_fm tr I A I1 A1) (g : rs_fm tr I1 A1 I2 A2) : rs_fm tr I A I2 A2 := by
  obtain ⟨a1, a2, a3, a4⟩ := h
  obtain ⟨b1, b2, b3, b4⟩ := g
  refine ⟨fun k h1 h2 h3 h4 h5 h6 => (b1 k h1 h2 h3 h4 h5 h6).trans (a1 k h1 h2 h3 h4 h5 h6), fun q h1 h2 h3 h4 h5 h6 h7 h8 h9 => (b2 q h1 h2 h3 h4 h5 h6 h7 h8 h9).trans (a2 q h1 h2 h3 h4 h5 h6 h7 h8 h9), fun z => ?_, a4.trans b4⟩
  obtain ⟨x1, x2, x3, x4⟩ := a3 z
  obtain ⟨y1, y2, y3, y4⟩ := b3 z
  exact ⟨y1.trans x1, y2.trans x2, y3.trans x3, y4.trans x4⟩
theorem rm_cell_e {G : mo_G} {made : Int} {ta : Int → Int} {nc c : Int} {A A' : Nat → Int → Int} (h : rm_cell G made ta nc A c) (h1 : A' 60 = A 60) (h2 : A' 61 = A 61) (h3 : A' 62 = A 62) : rm_cell G made ta nc A' c := by
  unfold rm_cell at h ⊢
  rw [h1, h2, h3]
  exact h
/-- rows of the trail stand still when only others change -/
theorem rt_ud_e {A A' : Nat → Int → Int} {tl : Int} (h : rr A' = rr A) (h1 : A' 71 = A 71) (h2 : A' 72 = A 72) : rt_ud A tl A' tl := ⟨Int.le_refl _, fun j _ => ⟨by rw [h1], by rw [h2]⟩, fun to _ _ => by rw [h, h1, h2]⟩
theorem rm_isval_var {G : mo_G} {made : Int} {bd : Int → Int} {ta : Int → Int} {nc x X : Int} (hx : rm_v ta nc x X) (hX : mo_isval G made bd X) : (x < 0 ↔ X < 0) ∧ (x < 0 → x = X ∧ 0 ≤ -1 - x ∧ -1 - x < made ∧ bd (-1 - x) = mo_F) ∧ (0 ≤ x → x < nc ∧ ta x = X ∧ mo_ok G made X) := by
  rcases hx with ⟨a1, a2⟩ | ⟨a1, a2, a3, a4⟩
  · subst a2
    rcases hX with ⟨b1, b2, b3, b4⟩ | ⟨b1, b2, b3⟩
    · exact ⟨Iff.rfl, fun _ => ⟨rfl, b2, b3, b4⟩, fun z => by omega⟩
    · omega
  · rcases hX with ⟨b1, b2, b3, b4⟩ | ⟨b1, b2, b3⟩
    · omega
    · exact ⟨by omega, fun z => by omega, fun _ => ⟨a2, a4, b2⟩⟩
