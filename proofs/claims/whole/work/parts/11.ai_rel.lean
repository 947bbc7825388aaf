/-! What the abstract heap says of the real one: ρ gives the addresses, dA the classes of the arrays. -/
def ai_v (ρ : ai_A → Nat) : ai_V → Value
  | .inl x => .int x
  | .inr (.inl x) => .long x
  | .inr (.inr none) => .null
  | .inr (.inr (some a)) => .ref (ρ a)
def ai_e (dA : Nat → ClassId) (ρ : ai_A → Nat) : ai_C → va_E
  | .inl o => .inr (o.1, o.2.map (ai_v ρ))
  | .inr (.inl (t, n, .inl f)) => .inl (dA t, n, .inl f)
  | .inr (.inl (t, n, .inr (.inl f))) => .inl (dA t, n, .inr (.inl f))
  | .inr (.inl (t, n, .inr (.inr f))) => .inl (dA t, n, .inr (.inr (.inr (.inr fun j => (f j).map ρ))))
  | .inr (.inr _) => .inl (0, 0, .inl fun _ => 0)
/-- a value leads to what is there -/
def ai_ok (h : ai_H) (v : ai_V) : Prop := ∀ a, v = .inr (.inr (some a)) → (h.1 a).isSome = true
def ai_cok (h : ai_H) : ai_C → Prop
  | .inl o => ∀ v ∈ o.2, ai_ok h v
  | .inr (.inl (_, _, .inr (.inr f))) => ∀ j a, f j = some a → (h.1 a).isSome = true
  | _ => True
def ai_ws (dA : Nat → ClassId) (ρ : ai_A → Nat) (h : ai_H) (dom : List ai_A) : va_W := dom.map fun a => (ρ a, ai_e dA ρ ((h.1 a).getD (.inr (.inr 0))))
def ai_R (D : va_G) (cl : List vw_C) (dA : Nat → ClassId) (B : Nat → Prop) (ρ : ai_A → Nat) (h : ai_H) (H : Heap) : Prop :=
  ∃ dom : List ai_A, (∀ a, a ∈ dom ↔ ∃ x, h.1 a = some x ∧ ai_solid x = true) ∧ va_P D cl (ai_ws dA ρ h dom) H ∧ va_D B (ai_ws dA ρ h dom) ∧ ∀ a x, h.1 a = some x → ai_cok h x
/-- the locals -/
def ai_lr (ρ : ai_A → Nat) (ls : ai_L) (A : Array Slot) : Prop := ∃ lv, lv_has A ls.length lv ∧ ∀ k v, ls[k]? = some (some v) → (k, ai_v ρ v) ∈ lv
/-- the same addresses for all that is there -/
def ai_le (h : ai_H) (ρ ρ' : ai_A → Nat) : Prop := ∀ a, (h.1 a).isSome = true → ρ' a = ρ a
theorem ai_v_ext {h : ai_H} {ρ ρ' : ai_A → Nat} {v : ai_V} (hv : ai_ok h v) (e : ai_le h ρ ρ') : ai_v ρ' v = ai_v ρ v := by
  rcases v with x | x | _ | a
  · rfl
  · rfl
  · rfl
  · show Value.ref (ρ' a) = Value.ref (ρ a)
    rw [e a (hv a rfl)]
theorem ai_vs_ext {h : ai_H} {ρ ρ' : ai_A → Nat} (e : ai_le h ρ ρ') : ∀ {st : List ai_V}, (∀ v ∈ st, ai_ok h v) → st.map (ai_v ρ') = st.map (ai_v ρ) := by
  intro st hst
  exact List.map_congr_left fun v hv => ai_v_ext (hst v hv) e
theorem ai_e_ext {h : ai_H} {dA : Nat → ClassId} {ρ ρ' : ai_A → Nat} {x : ai_C} (hx : ai_cok h x) (e : ai_le h ρ ρ') : ai_e dA ρ' x = ai_e dA ρ x := by
  rcases x with o | ⟨t, n, f | f | f⟩ | k
  · show Sum.inr (o.1, o.2.map (ai_v ρ')) = Sum.inr (o.1, o.2.map (ai_v ρ))
    rw [ai_vs_ext e hx]
  · rfl
  · rfl
  · have hf : (fun j => (f j).map ρ') = fun j => (f j).map ρ := by
      funext j
      cases hj : f j with
      | none => rfl
      | some a =>
        show some (ρ' a) = some (ρ a)
        rw [e a (hx j a hj)]
    show Sum.inl (dA t, n, Sum.inr (Sum.inr (Sum.inr (Sum.inr fun j => (f j).map ρ')))) = Sum.inl (dA t, n, Sum.inr (Sum.inr (Sum.inr (Sum.inr fun j => (f j).map ρ))))
    rw [hf]
  · rfl
theorem ai_cat1 {ρ : ai_A → Nat} {v : ai_V} (h : ai_two v = false) : (ai_v ρ v).category = 1 := by
  rcases v with x | x | _ | a
  · rfl
  · cases h
  · rfl
  · rfl
theorem ai_ws_at {dA : Nat → ClassId} {ρ : ai_A → Nat} {h : ai_H} {dom : List ai_A} {k : Nat} {a : ai_A} {x : ai_C} (hk : dom[k]? = some a) (ha : h.1 a = some x) : (ai_ws dA ρ h dom)[k]? = some (ρ a, ai_e dA ρ x) := by
  simp [ai_ws, hk, ha]
/-- a cell's place among the real ones -/
theorem ai_R.idx {D : va_G} {cl : List vw_C} {dA : Nat → ClassId} {ρ : ai_A → Nat} {h : ai_H} {dom : List ai_A} {a : ai_A} {x : ai_C}
    (hd : ∀ a, a ∈ dom ↔ ∃ x, h.1 a = some x ∧ ai_solid x = true) (ha : h.1 a = some x) (hs : ai_solid x = true) : ∃ k : Nat, dom[k]? = some a ∧ (ai_ws dA ρ h dom)[k]? = some (ρ a, ai_e dA ρ x) := by
  obtain ⟨k, hk⟩ := List.getElem?_of_mem ((hd a).mpr ⟨x, ha, hs⟩)
  exact ⟨k, hk, ai_ws_at hk ha⟩
theorem ai_ws_set {dA : Nat → ClassId} {B : Nat → Prop} {ρ : ai_A → Nat} {h : ai_H} {dom : List ai_A} {k : Nat} {a : ai_A} {x : ai_C} (hD : va_D B (ai_ws dA ρ h dom)) (hk : dom[k]? = some a) :
    (ai_ws dA ρ h dom).set k (ρ a, ai_e dA ρ x) = ai_ws dA ρ (ai_put h a x) dom := by
  have hl : k < dom.length := (List.getElem?_eq_some_iff.mp hk).1
  apply List.ext_getElem?
  intro j
  by_cases hj : k = j
  · subst hj
    rw [List.getElem?_set_self (by simpa [ai_ws] using hl)]
    simp [ai_ws, hk, ai_put, ai_upd]
  · rw [List.getElem?_set_ne hj]
    cases hd : dom[j]? with
    | none => simp [ai_ws, hd]
    | some b =>
      have hb : ¬ b = a := by
        intro e
        subst e
        exact hj (hD.1 k j _ _ (show (ai_ws dA ρ h dom)[k]? = some (ρ b, ai_e dA ρ ((h.1 b).getD (.inr (.inr 0)))) by simp [ai_ws, hk]) (show (ai_ws dA ρ h dom)[j]? = some (ρ b, ai_e dA ρ ((h.1 b).getD (.inr (.inr 0)))) by simp [ai_ws, hd]) rfl)
      simp [ai_ws, hd, ai_put, ai_upd, hb]
theorem ai_put_some {h : ai_H} {a b : ai_A} {x : ai_C} (hb : (h.1 b).isSome = true) : ((ai_put h a x).1 b).isSome = true := by
  by_cases e : b = a
  · simp [ai_put, ai_upd, e]
  · simpa [ai_put, ai_upd, e] using hb
theorem ai_put_ok {h : ai_H} {a : ai_A} {x : ai_C} {v : ai_V} (hv : ai_ok h v) : ai_ok (ai_put h a x) v := fun b hb => ai_put_some (hv b hb)
theorem ai_cok_mono {h h' : ai_H} (hm : ∀ b, (h.1 b).isSome = true → (h'.1 b).isSome = true) {x : ai_C} (hx : ai_cok h x) : ai_cok h' x := by
  rcases x with o | ⟨t, n, f | f | f⟩ | k
  · exact fun v hv a ha => hm a (hx v hv a ha)
  · trivial
  · trivial
  · exact fun j a ha => hm a (hx j a ha)
  · trivial
/-- behind a store -/
theorem ai_R.put {D : va_G} {cl : List vw_C} {dA : Nat → ClassId} {B : Nat → Prop} {ρ : ai_A → Nat} {h : ai_H} {H1 : Heap} {dom : List ai_A} {k : Nat} {a : ai_A} {x x' : ai_C}
    (hd : ∀ a, a ∈ dom ↔ ∃ x, h.1 a = some x ∧ ai_solid x = true) (hc : ∀ a x, h.1 a = some x → ai_cok h x) (hD : va_D B (ai_ws dA ρ h dom)) (hk : dom[k]? = some a) (ha : h.1 a = some x) (hs : ai_solid x = true) (hs' : ai_solid x' = true) (hx' : ai_cok h x')
    (hP1 : va_P D cl ((ai_ws dA ρ h dom).set k (ρ a, ai_e dA ρ x')) H1) (hD1 : va_D B ((ai_ws dA ρ h dom).set k (ρ a, ai_e dA ρ x'))) : ai_R D cl dA B ρ (ai_put h a x') H1 := by
  rw [ai_ws_set hD hk] at hP1 hD1
  have hm : ∀ b, (h.1 b).isSome = true → ((ai_put h a x').1 b).isSome = true := fun b hb => ai_put_some hb
  refine ⟨dom, fun b => ?_, hP1, hD1, fun b y hb => ?_⟩
  · rw [hd b]
    by_cases e : b = a
    · subst e
      refine ⟨fun _ => ⟨x', by simp [ai_put, ai_upd], hs'⟩, fun _ => ⟨x, ha, hs⟩⟩
    · have : (ai_put h a x').1 b = h.1 b := by simp [ai_put, ai_upd, e]
      rw [this]
  · by_cases e : b = a
    · subst e
      have : x' = y := by simpa [ai_put, ai_upd] using hb
      rw [← this]
      exact ai_cok_mono hm hx'
    · have : h.1 b = some y := by simpa [ai_put, ai_upd, e] using hb
      exact ai_cok_mono hm (hc b y this)
/-- an address map with one more -/
def ai_at (ρ : ai_A → Nat) (a : ai_A) (q : Nat) : ai_A → Nat := fun b => if b = a then q else ρ b
theorem ai_at_le {h : ai_H} {ρ : ai_A → Nat} {a : ai_A} {q : Nat} (ha : h.1 a = none) : ai_le h ρ (ai_at ρ a q) := by
  intro b hb
  by_cases e : b = a
  · subst e
    rw [ha] at hb
    cases hb
  · simp [ai_at, e]
theorem ai_new_some {h : ai_H} {s n : Nat} {x : ai_C} {b : ai_A} (hb : (h.1 b).isSome = true) : ((ai_new h s x n).1 b).isSome = true := by
  by_cases e : b = (s, h.2.1 s)
  · simp [ai_new, ai_upd, e]
  · simpa [ai_new, ai_upd, e] using hb
/-- behind the making of a cell at q -/
theorem ai_R.new {D : va_G} {cl : List vw_C} {dA : Nat → ClassId} {B : Nat → Prop} {ρ : ai_A → Nat} {h : ai_H} {H1 : Heap} {dom : List ai_A} {s n q : Nat} {x : ai_C}
    (hd : ∀ a, a ∈ dom ↔ ∃ x, h.1 a = some x ∧ ai_solid x = true) (hc : ∀ a x, h.1 a = some x → ai_cok h x) (ha : h.1 (s, h.2.1 s) = none) (hs : ai_solid x = true) (hx : ai_cok h x)
    (hP1 : va_P D cl (ai_ws dA ρ h dom ++ [(q, ai_e dA ρ x)]) H1) (hD1 : va_D B (ai_ws dA ρ h dom ++ [(q, ai_e dA ρ x)])) : ai_R D cl dA B (ai_at ρ (s, h.2.1 s) q) (ai_new h s x n) H1 := by
  have hle := ai_at_le (ρ := ρ) (q := q) ha
  have hm : ∀ b, (h.1 b).isSome = true → ((ai_new h s x n).1 b).isSome = true := fun b hb => ai_new_some hb
  have hw : ai_ws dA (ai_at ρ (s, h.2.1 s) q) (ai_new h s x n) (dom ++ [(s, h.2.1 s)]) = ai_ws dA ρ h dom ++ [(q, ai_e dA ρ x)] := by
    unfold ai_ws
    rw [List.map_append]
    congr 1
    · refine List.map_congr_left fun b hb => ?_
      obtain ⟨y, hy, hys⟩ := (hd b).mp hb
      have hne : ¬ b = (s, h.2.1 s) := fun e => by
        subst e
        rw [ha] at hy
        cases hy
      have e1 : (ai_new h s x n).1 b = some y := by simp [ai_new, ai_upd, hne, hy]
      rw [e1, hy]
      show (ai_at ρ (s, h.2.1 s) q b, ai_e dA (ai_at ρ (s, h.2.1 s) q) y) = (ρ b, ai_e dA ρ y)
      rw [hle b (by rw [hy]; rfl), ai_e_ext (hc b y hy) hle]
    · have e1 : (ai_new h s x n).1 (s, h.2.1 s) = some x := by simp [ai_new, ai_upd]
      show [(ai_at ρ (s, h.2.1 s) q (s, h.2.1 s), ai_e dA (ai_at ρ (s, h.2.1 s) q) (((ai_new h s x n).1 (s, h.2.1 s)).getD (.inr (.inr 0))))] = [(q, ai_e dA ρ x)]
      rw [e1]
      show [(ai_at ρ (s, h.2.1 s) q (s, h.2.1 s), ai_e dA (ai_at ρ (s, h.2.1 s) q) x)] = [(q, ai_e dA ρ x)]
      rw [ai_e_ext hx hle]
      simp [ai_at]
  refine ⟨dom ++ [(s, h.2.1 s)], fun b => ?_, by rw [hw]; exact hP1, by rw [hw]; exact hD1, fun b y hb => ?_⟩
  · by_cases e : b = (s, h.2.1 s)
    · subst e
      exact ⟨fun _ => ⟨x, by simp [ai_new, ai_upd], hs⟩, fun _ => by simp⟩
    · have e1 : (ai_new h s x n).1 b = h.1 b := by simp [ai_new, ai_upd, e]
      rw [e1, ← hd b]
      simp [e]
  · by_cases e : b = (s, h.2.1 s)
    · subst e
      have : x = y := by simpa [ai_new, ai_upd] using hb
      rw [← this]
      exact ai_cok_mono hm hx
    · have : h.1 b = some y := by simpa [ai_new, ai_upd, e] using hb
      exact ai_cok_mono hm (hc b y this)
/-- a store to a local -/
theorem ai_lr.set1 {ρ : ai_A → Nat} {ls ls' : ai_L} {lv : List (Nat × Value)} {A' : Array Slot} {i : Nat} {v : ai_V} (hs : ai_st1 ls i v = some ls') (hl : ∀ k v, ls[k]? = some (some v) → (k, ai_v ρ v) ∈ lv)
    (hA : lv_has A' ls.length ((i, ai_v ρ v) :: lv.filter (fun q => !(q.1 == i) && !(q.1 + 1 == i && q.2.category == 2)))) : ai_lr ρ ls' A' := by
  unfold ai_st1 at hs
  split at hs
  · rename_i hc
    obtain ⟨h1, h2⟩ := hc
    cases hs
    refine ⟨_, by rw [List.length_set]; exact hA, fun k w hk => ?_⟩
    by_cases e : i = k
    · subst e
      rw [List.getElem?_set_self h1] at hk
      cases hk
      exact List.mem_cons_self
    · rw [List.getElem?_set_ne e] at hk
      refine List.mem_cons_of_mem _ (List.mem_filter.mpr ⟨hl k w hk, ?_⟩)
      have e1 : (k == i) = false := by simpa using fun q => e q.symm
      cases i with
      | zero => simp [e1]
      | succ j =>
        by_cases e2 : k = j
        · subst e2
          have h3 : ai_two w = false := by
            simpa [ai_pl, hk] using h2
          simp [ai_cat1 h3]
        · simp [e1, e2]
          try omega
  · cases hs
theorem ai_lr.set2 {ρ : ai_A → Nat} {ls ls' : ai_L} {lv : List (Nat × Value)} {A' : Array Slot} {i : Nat} {v : ai_V} (hs : ai_st2 ls i v = some ls') (hl : ∀ k v, ls[k]? = some (some v) → (k, ai_v ρ v) ∈ lv)
    (hA : lv_has A' ls.length ((i, ai_v ρ v) :: lv.filter (fun q => !(q.1 == i) && (!(q.1 == i + 1) && !(q.1 + 1 == i && q.2.category == 2))))) : ai_lr ρ ls' A' := by
  unfold ai_st2 at hs
  split at hs
  · rename_i hc
    obtain ⟨h1, h2⟩ := hc
    cases hs
    refine ⟨_, by rw [List.length_set, List.length_set]; exact hA, fun k w hk => ?_⟩
    by_cases e9 : i + 1 = k
    · subst e9
      rw [List.getElem?_set_self (by rw [List.length_set]; exact h1)] at hk
      cases hk
    · rw [List.getElem?_set_ne e9] at hk
      by_cases e : i = k
      · subst e
        rw [List.getElem?_set_self (by omega)] at hk
        cases hk
        exact List.mem_cons_self
      · rw [List.getElem?_set_ne e] at hk
        refine List.mem_cons_of_mem _ (List.mem_filter.mpr ⟨hl k w hk, ?_⟩)
        have e1 : (k == i) = false := by simpa using fun q => e q.symm
        have e3 : (k == i + 1) = false := by simpa using fun q => e9 q.symm
        cases i with
        | zero => simp [e1, e3]
        | succ j =>
          by_cases e2 : k = j
          · subst e2
            have h3 : ai_two w = false := by
              simpa [ai_pl, hk] using h2
            simp [ai_cat1 h3]
            try omega
          · simp [e1, e2, e3]
            try omega
  · cases hs
