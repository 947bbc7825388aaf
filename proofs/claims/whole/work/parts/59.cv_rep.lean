/-! How the class's rows hold what is bound and who sleeps; how they are taken back. -/
def cv_rv (b f e x : Int → Int) (made : Int) (bd : Int → Int) (ch : Int → List Int) : Prop :=
  (∀ v, 0 ≤ v → v < made → b v = bd v) ∧ ∀ v, 0 ≤ v → v < made → bd v = mo_F → mo_lnk x (f v) (ch v) ∧ e v = mo_last (ch v)
theorem cv_rv_bind {b f e x : Int → Int} {made : Int} {bd : Int → Int} {ch : Int → List Int} (h : cv_rv b f e x made bd ch) {v t : Int} (ht : t ≠ mo_F) : cv_rv (mo_up b v t) f e x made (mo_up bd v t) ch := by
  obtain ⟨h1, h2⟩ := h
  refine ⟨fun u a c => ?_, fun u a c g => h2 u a c (mo_up_free ht g).2⟩
  simp only [mo_up]
  by_cases e : u = v
  · rw [if_pos e, if_pos e]
  · rw [if_neg e, if_neg e]
    exact h1 u a c
/-- v's chain with another behind it -/
theorem cv_rv_link {b f e x : Int → Int} {made ns : Int} {bd : Int → Int} {ch : Int → List Int} {w : List Int} (h : cv_rv b f e x made bd ch) (hc : mo_cw made ns bd ch w) {lo hi t : Int} (ht : t ≠ mo_F) (h0 : 0 ≤ lo ∧ lo < hi ∧ hi < made ∧ bd lo = mo_F ∧ bd hi = mo_F) (hne : ch hi ≠ []) :
    cv_rv (mo_up b hi t) (if e lo = -1 then mo_up f lo (f hi) else f) (mo_up e lo (e hi)) (if e lo = -1 then x else mo_up x (e lo) (f hi)) made (mo_up bd hi t) (mo_upc ch lo (ch lo ++ ch hi)) := by
  obtain ⟨l0, l1, l2, l3, l4⟩ := h0
  have hb := cv_rv_bind h (v := hi) (t := t) ht
  obtain ⟨h1, h2⟩ := h
  obtain ⟨p1, p2⟩ := h2 lo l0 (by omega) l3
  obtain ⟨q1, q2⟩ := h2 hi (by omega) l2 l4
  obtain ⟨c1, c2, c3, c4⟩ := hc
  obtain ⟨a1, a2, a3⟩ := c1 lo l0 (by omega) l3
  have hd := c2 lo hi l0 (by omega) (by omega) l2 l3 l4 (by omega)
  have el : e lo = -1 ↔ ch lo = [] := by
    constructor
    · intro z
      rw [p2] at z
      cases hl : ch lo with
      | nil => rfl
      | cons y ys =>
        have hm := mo_last_mem (l := ch lo) (by rw [hl]; simp)
        have := a1 _ hm
        omega
    · intro z
      rw [p2, z]
      rfl
  refine ⟨hb.1, fun u a c g => ?_⟩
  obtain ⟨g1, g2⟩ := mo_up_free ht g
  obtain ⟨u1, u2⟩ := h2 u a c g2
  by_cases eu : u = lo
  · subst eu
    have e1 : mo_upc ch u (ch u ++ ch hi) u = ch u ++ ch hi := by simp [mo_upc]
    rw [e1]
    by_cases ee : e u = -1
    · have hz := el.mp ee
      rw [if_pos ee, if_pos ee, hz, List.nil_append]
      refine ⟨?_, ?_⟩
      · have : mo_up f u (f hi) u = f hi := by simp [mo_up]
        rw [this]
        exact q1
      · have : mo_up e u (e hi) u = e hi := by simp [mo_up]
        rw [this]
        exact q2
    · have hz : ch u ≠ [] := fun z => ee (el.mpr z)
      rw [if_neg ee, if_neg ee]
      refine ⟨?_, ?_⟩
      · rw [p2]
        exact mo_lnk_app p1 q1 hz a2 hd
      · have : mo_up e u (e hi) u = e hi := by simp [mo_up]
        rw [this, q2, mo_last_app _ _ hne]
  · have e1 : mo_upc ch lo (ch lo ++ ch hi) u = ch u := by simp [mo_upc, eu]
    rw [e1]
    have e2 : mo_up e lo (e hi) u = e u := by simp [mo_up, eu]
    rw [e2]
    refine ⟨?_, u2⟩
    by_cases ee : e lo = -1
    · rw [if_pos ee, if_pos ee]
      have : mo_up f lo (f hi) u = f u := by simp [mo_up, eu]
      rw [this]
      exact u1
    · rw [if_neg ee, if_neg ee]
      refine mo_lnk_eq (fun y hy => ?_) u1
      have hz : ch lo ≠ [] := fun z => ee (el.mpr z)
      have hm := mo_last_mem hz
      have : y ≠ e lo := by
        rw [p2]
        intro z
        exact c2 u lo a c l0 (by omega) g2 l3 eu y hy (z ▸ hm)
      simp [mo_up, this]
/-- freeing after one more was bound is freeing before -/
theorem cv_fr_eq {f ones ones' : Int → Int} {kept : Int} : ∀ (m : Nat), (∀ i, kept ≤ i → i < kept + m → ones' i = ones i) → cv_fr f ones' kept m = cv_fr f ones kept m
  | 0, _ => rfl
  | m + 1, h => by
    funext j
    show (if j = ones' (kept + m) then mo_F else cv_fr f ones' kept m j) = if j = ones (kept + m) then mo_F else cv_fr f ones kept m j
    rw [h (kept + m) (by omega) (by omega), cv_fr_eq m (fun i a b => h i a (by omega))]
theorem cv_fr_at {f f' ones : Int → Int} {kept : Int} {j : Int} (h : f' j = f j) : ∀ (m : Nat), cv_fr f' ones kept m j = cv_fr f ones kept m j
  | 0 => h
  | m + 1 => by
    show (if j = ones (kept + m) then mo_F else cv_fr f' ones kept m j) = if j = ones (kept + m) then mo_F else cv_fr f ones kept m j
    rw [cv_fr_at h m]
theorem cv_fr_F {f ones : Int → Int} {kept : Int} {j : Int} (h : f j = mo_F) : ∀ (m : Nat), cv_fr f ones kept m j = mo_F
  | 0 => h
  | m + 1 => by
    show (if j = ones (kept + m) then mo_F else cv_fr f ones kept m j) = mo_F
    rw [cv_fr_F h m]
    simp
theorem cv_fr_bind {f ones : Int → Int} {kept bc v t : Int} (hk : kept ≤ bc) (hv : f v = mo_F) : cv_fr (mo_up f v t) (mo_up ones bc v) kept (bc + 1 - kept).toNat = cv_fr f ones kept (bc - kept).toNat := by
  have e : (bc + 1 - kept).toNat = (bc - kept).toNat + 1 := by omega
  rw [e]
  funext j
  show (if j = mo_up ones bc v (kept + ((bc - kept).toNat : Nat)) then mo_F else cv_fr (mo_up f v t) (mo_up ones bc v) kept (bc - kept).toNat j) = _
  have e1 : mo_up ones bc v (kept + ((bc - kept).toNat : Nat)) = v := by
    simp only [mo_up]
    rw [if_pos (by omega)]
  rw [e1, cv_fr_eq (ones := ones) _ (fun i a b => by
    simp only [mo_up]
    rw [if_neg (by omega)])]
  by_cases ej : j = v
  · rw [if_pos ej, ej, cv_fr_F hv]
  · rw [if_neg ej]
    exact cv_fr_at (by simp [mo_up, ej]) _
/-- the newest link first, then the others -/
theorem cv_un_shift {f e x on gb : Int → Int} {gc : Int} : ∀ (m : Nat), cv_un f e x on gb (gc + 1) (m + 1) = cv_un (cv_un f e x on gb (gc + 1) 1).1 (cv_un f e x on gb (gc + 1) 1).2.1 (cv_un f e x on gb (gc + 1) 1).2.2 on gb gc m
  | 0 => rfl
  | m + 1 => by
    have ih := cv_un_shift (f := f) (e := e) (x := x) (on := on) (gb := gb) (gc := gc) m
    have e1 : gc + 1 - 1 - ((m + 1 : Nat) : Int) = gc - 1 - (m : Int) := by omega
    by_cases h : gb (gc - 1 - (m : Int)) = -1
    · rw [cv_un_pos (m := m + 1) (by rw [e1]; exact h), cv_un_pos (m := m) h, ih, e1]
    · rw [cv_un_neg (m := m + 1) (by rw [e1]; exact h), cv_un_neg (m := m) h, ih, e1]
theorem cv_un_eq {f e x on gb on' gb' : Int → Int} {gc : Int} : ∀ (m : Nat), (∀ i, gc - m ≤ i → i < gc → on' i = on i ∧ gb' i = gb i) → cv_un f e x on' gb' gc m = cv_un f e x on gb gc m
  | 0, _ => rfl
  | m + 1, h => by
    have ih := cv_un_eq (f := f) (e := e) (x := x) m (fun i a b => h i (by omega) b)
    obtain ⟨h1, h2⟩ := h (gc - 1 - m) (by omega) (by omega)
    by_cases hg : gb (gc - 1 - (m : Int)) = -1
    · rw [cv_un_pos (m := m) (by rw [h2]; exact hg), cv_un_pos (m := m) hg, ih, h1, h2]
    · rw [cv_un_neg (m := m) (by rw [h2]; exact hg), cv_un_neg (m := m) hg, ih, h1, h2]
theorem cv_un_link {f e x on gb : Int → Int} {kg gc v first last : Int} (hk : kg ≤ gc) (hf : e v = -1 → f v = -1) (hx : e v ≠ -1 → x (e v) = -1) :
    cv_un (if e v = -1 then mo_up f v first else f) (mo_up e v last) (if e v = -1 then x else mo_up x (e v) first) (mo_up on gc v) (mo_up gb gc (e v)) (gc + 1) (gc + 1 - kg).toNat = cv_un f e x on gb gc (gc - kg).toNat := by
  have e0 : (gc + 1 - kg).toNat = (gc - kg).toNat + 1 := by omega
  rw [e0, cv_un_shift]
  have g1 : mo_up gb gc (e v) (gc + 1 - 1 - ((0 : Nat) : Int)) = e v := by
    simp only [mo_up]
    rw [if_pos (by omega)]
  have g2 : mo_up on gc v (gc + 1 - 1 - ((0 : Nat) : Int)) = v := by
    simp only [mo_up]
    rw [if_pos (by omega)]
  have e1 : cv_un (if e v = -1 then mo_up f v first else f) (mo_up e v last) (if e v = -1 then x else mo_up x (e v) first) (mo_up on gc v) (mo_up gb gc (e v)) (gc + 1) 1 = (f, e, x) := by
    have ee : (fun j => if j = v then e v else mo_up e v last j) = e := by
      funext j
      simp only [mo_up]
      by_cases z : j = v
      · rw [if_pos z, z]
      · rw [if_neg z, if_neg z]
    by_cases h : e v = -1
    · rw [cv_un_pos (m := 0) (by rw [g1]; exact h), g1, g2, if_pos h, if_pos h]
      show ((fun j => if j = v then -1 else mo_up f v first j), (fun j => if j = v then e v else mo_up e v last j), x) = (f, e, x)
      rw [ee]
      have ef : (fun j => if j = v then -1 else mo_up f v first j) = f := by
        funext j
        simp only [mo_up]
        by_cases z : j = v
        · rw [if_pos z, z, hf h]
        · rw [if_neg z, if_neg z]
      rw [ef]
    · rw [cv_un_neg (m := 0) (by rw [g1]; exact h), g1, g2, if_neg h, if_neg h]
      show (f, (fun j => if j = v then e v else mo_up e v last j), fun j => if j = e v then -1 else mo_up x (e v) first j) = (f, e, x)
      rw [ee]
      have ex : (fun j => if j = e v then -1 else mo_up x (e v) first j) = x := by
        funext j
        simp only [mo_up]
        by_cases z : j = e v
        · rw [if_pos z, z, hx h]
        · rw [if_neg z, if_neg z]
      rw [ex]
  rw [e1]
  refine cv_un_eq _ (fun i a b => ?_)
  simp only [mo_up]
  exact ⟨if_neg (by omega), if_neg (by omega)⟩
/-- what is left alone while terms are made same -/
def cp_fm (S S' : ty_S) (B F E : ai_A) : Prop := (∀ b j, b ≠ (37, 0) → b ≠ (38, 0) → ¬ (b = (13, 0) ∧ (j = 7 ∨ j = 13)) → S'.1 b j = S.1 b j) ∧ S'.2.1 = S.2.1 ∧
  (∀ b, b ≠ B → b ≠ F → b ≠ E → b ≠ (26, 0) → b ≠ (28, 0) → b ≠ (29, 0) → b ≠ (30, 0) → b ≠ (40, 0) → b ≠ (41, 0) → b ≠ (42, 0) → S'.2.2.1 b = S.2.2.1 b) ∧ S'.2.2.2.1 = S.2.2.2.1 ∧ S'.2.2.2.2.1 = S.2.2.2.2.1 ∧ S'.2.2.2.2.2.1 = S.2.2.2.2.2.1 ∧ S'.2.2.2.2.2.2.1 = S.2.2.2.2.2.2.1
theorem cp_fm.refl {S : ty_S} {B F E : ai_A} : cp_fm S S B F E := ⟨fun _ _ _ _ _ => rfl, rfl, fun _ _ _ _ _ _ _ _ _ _ _ => rfl, rfl, rfl, rfl, rfl⟩
theorem cp_fm.trans {S S1 S2 : ty_S} {B F E : ai_A} (h : cp_fm S S1 B F E) (g : cp_fm S1 S2 B F E) : cp_fm S S2 B F E :=
  ⟨fun b j a c e => (g.1 b j a c e).trans (h.1 b j a c e), g.2.1.trans h.2.1, fun b a1 a2 a3 a4 a5 a6 a7 a8 a9 a10 => (g.2.2.1 b a1 a2 a3 a4 a5 a6 a7 a8 a9 a10).trans (h.2.2.1 b a1 a2 a3 a4 a5 a6 a7 a8 a9 a10), g.2.2.2.1.trans h.2.2.2.1, g.2.2.2.2.1.trans h.2.2.2.2.1, g.2.2.2.2.2.1.trans h.2.2.2.2.2.1, g.2.2.2.2.2.2.trans h.2.2.2.2.2.2⟩
/-- what can be taken back is the same -/
def cp_ud (S S' : ty_S) (B F E : ai_A) : Prop := S.1 (13, 0) 7 ≤ S'.1 (13, 0) 7 ∧ S.1 (13, 0) 13 ≤ S'.1 (13, 0) 13 ∧
  (∀ k, 0 ≤ k → k ≤ S.1 (13, 0) 7 → cv_fr (S'.2.2.1 B) (S'.2.2.1 (26, 0)) k (S'.1 (13, 0) 7 - k).toNat = cv_fr (S.2.2.1 B) (S.2.2.1 (26, 0)) k (S.1 (13, 0) 7 - k).toNat) ∧
  ∀ k, 0 ≤ k → k ≤ S.1 (13, 0) 13 → cv_un (S'.2.2.1 F) (S'.2.2.1 E) (S'.2.2.1 (28, 0)) (S'.2.2.1 (29, 0)) (S'.2.2.1 (30, 0)) (S'.1 (13, 0) 13) (S'.1 (13, 0) 13 - k).toNat = cv_un (S.2.2.1 F) (S.2.2.1 E) (S.2.2.1 (28, 0)) (S.2.2.1 (29, 0)) (S.2.2.1 (30, 0)) (S.1 (13, 0) 13) (S.1 (13, 0) 13 - k).toNat
theorem cp_ud.refl {S : ty_S} {B F E : ai_A} : cp_ud S S B F E := ⟨Int.le_refl _, Int.le_refl _, fun _ _ _ => rfl, fun _ _ _ => rfl⟩
theorem cp_ud.trans {S S1 S2 : ty_S} {B F E : ai_A} (h : cp_ud S S1 B F E) (g : cp_ud S1 S2 B F E) : cp_ud S S2 B F E :=
  ⟨Int.le_trans h.1 g.1, Int.le_trans h.2.1 g.2.1, fun k a b => (g.2.2.1 k a (Int.le_trans b h.1)).trans (h.2.2.1 k a b), fun k a b => (g.2.2.2 k a (Int.le_trans b h.2.1)).trans (h.2.2.2 k a b)⟩
/-- the class's rows while terms are made same: k bounds what was bound and linked -/
def cp_R (S : ty_S) (B F E : ai_A) (n : Nat) (G : mo_G) (made ns : Int) (sl : Int → Int) (st k : Int) (u : mo_U) : Prop :=
  ty_st S ∧ cv_sh S B F E n ∧ cv_g S G ∧ (S.1 (13, 0) 4 = made ∧ 0 ≤ made ∧ made ≤ n) ∧ (S.1 (37, 0) 0 = st ∧ 0 ≤ st ∧ st ≤ 500) ∧ mo_stk (S.2.2.1 (40, 0)) (S.2.2.1 (41, 0)) (S.1 (38, 0) 5) u.1 ∧
  (S.1 (38, 0) 7 = u.2.2.2.1.length ∧ mo_at (S.2.2.1 (42, 0)) 0 (u.2.2.2.1.map sl)) ∧ cv_rv (S.2.2.1 B) (S.2.2.1 F) (S.2.2.1 E) (S.2.2.1 (28, 0)) made u.2.1 u.2.2.1 ∧ (∀ e, 0 ≤ e → e < ns → S.2.2.1 (27, 0) e = sl e) ∧
  ((0 ≤ S.1 (13, 0) 7 ∧ S.1 (13, 0) 7 ≤ k) ∧ ∀ i, 0 ≤ i → i < S.1 (13, 0) 7 → 0 ≤ S.2.2.1 (26, 0) i ∧ S.2.2.1 (26, 0) i < n) ∧
  ((0 ≤ S.1 (13, 0) 13 ∧ S.1 (13, 0) 13 ≤ k) ∧ ∀ i, 0 ≤ i → i < S.1 (13, 0) 13 → (0 ≤ S.2.2.1 (29, 0) i ∧ S.2.2.1 (29, 0) i < n) ∧ -1 ≤ S.2.2.1 (30, 0) i ∧ S.2.2.1 (30, 0) i < 500) ∧ 0 ≤ ns ∧ ns ≤ 500
