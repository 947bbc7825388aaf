/-! Writes upon writes. -/
section TYA
variable {S : ty_S} {a b : ai_A} {k j : Nat} {v w i m : Int} {f g : Int → Int}
theorem ty_sI_self (h : S.1 a k = v) : ty_sI S a k v = S := by
  refine Prod.ext ?_ rfl
  funext b j
  show (if b = a ∧ j = k then v else S.1 b j) = S.1 b j
  by_cases e : b = a ∧ j = k
  · rw [if_pos e, e.1, e.2, h]
  · rw [if_neg e]
theorem ty_sI_sI : ty_sI (ty_sI S a k v) a k w = ty_sI S a k w := by
  refine Prod.ext ?_ rfl
  funext b j
  show (if b = a ∧ j = k then w else if b = a ∧ j = k then v else S.1 b j) = if b = a ∧ j = k then w else S.1 b j
  by_cases e : b = a ∧ j = k
  · rw [if_pos e, if_pos e]
  · rw [if_neg e, if_neg e, if_neg e]
theorem ty_sI_at : (ty_sI S a k v).1 a k = v := if_pos ⟨rfl, rfl⟩
theorem ty_sI_ne {c : ai_A} {q : Nat} (h : ¬ (c = a ∧ q = k)) : (ty_sI S a k v).1 c q = S.1 c q := if_neg h
theorem ty_mA_at : (ty_mA S a f).2.2.1 a = f := if_pos rfl
theorem ty_mA_ne (h : ¬ b = a) : (ty_mA S a f).2.2.1 b = S.2.2.1 b := if_neg h
theorem ty_mA_mA : ty_mA (ty_mA S a f) a g = ty_mA S a g := by
  refine Prod.ext rfl (Prod.ext rfl (Prod.ext ?_ rfl))
  funext b
  show (if b = a then g else if b = a then f else S.2.2.1 b) = if b = a then g else S.2.2.1 b
  by_cases e : b = a
  · rw [if_pos e, if_pos e]
  · rw [if_neg e, if_neg e, if_neg e]
theorem ty_sI_comm (h : ¬ (a = b ∧ k = j)) : ty_sI (ty_sI S a k v) b j w = ty_sI (ty_sI S b j w) a k v := by
  refine Prod.ext ?_ rfl
  funext c q
  show (if c = b ∧ q = j then w else if c = a ∧ q = k then v else S.1 c q) = if c = a ∧ q = k then v else if c = b ∧ q = j then w else S.1 c q
  by_cases e : c = b ∧ q = j
  · rw [if_pos e, if_pos e, if_neg (fun z => h ⟨by rw [← z.1, e.1], by rw [← z.2, e.2]⟩)]
  · rw [if_neg e, if_neg e]
theorem ty_sA_ne (h : ¬ b = a) : (ty_sA S a i v).2.2.1 b = S.2.2.1 b := by
  funext j
  show (if b = a ∧ j = i then v else S.2.2.1 b j) = S.2.2.1 b j
  rw [if_neg (fun z => h z.1)]
theorem ty_sA_at : (ty_sA S a i v).2.2.1 a = fun j => if j = i then v else S.2.2.1 a j := by
  funext j
  show (if a = a ∧ j = i then v else S.2.2.1 a j) = _
  by_cases e : j = i
  · rw [if_pos ⟨rfl, e⟩, if_pos e]
  · rw [if_neg (fun z => e z.2), if_neg e]
end TYA
