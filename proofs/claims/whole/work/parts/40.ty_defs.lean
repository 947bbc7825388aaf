/-! THE TYPED MACHINE. Its state: ints in fields, references in fields, ints in arrays, references in arrays, the law's row of longs, the arrays' lengths, how many were made where, cells, slots. Ints are whole numbers; ty_J takes them to the machine's. -/
abbrev ty_S : Type := (ai_A → Nat → Int) × (ai_A → Nat → Option ai_A) × (ai_A → Int → Int) × (ai_A → Int → Option ai_A) × (Int → Int64) × (ai_A → Nat) × (Nat → Nat) × Nat × Nat
def ty_J (z : Int) : Int32 := Int32.ofInt z
/-- what is made at a site: 1 objects of a class, 2 arrays of ints of a type, 3 of longs, 4 of references, 5 a thing of a number, 6 what was there before -/
def ty_skL : List (Nat × Nat) := [(6, 0), (5, 1), (0, 0), (0, 0), (0, 0), (0, 0), (0, 0), (0, 0), (0, 0), (0, 0), (2, 1), (4, 4), (1, 1), (1, 2), (1, 3), (1, 3), (1, 4), (1, 5), (1, 10), (2, 1), (2, 0), (2, 0), (2, 0), (2, 0), (2, 0), (2, 0), (2, 0), (2, 0), (2, 0), (2, 0), (2, 0), (2, 1), (2, 0), (2, 0), (2, 0), (1, 6), (1, 6), (1, 7), (1, 8), (1, 9), (2, 0), (2, 0), (2, 0), (2, 0), (2, 0), (2, 2), (2, 0), (2, 1), (2, 0), (1, 11), (4, 5), (4, 5), (1, 12), (2, 0), (2, 0), (2, 0), (2, 0), (2, 0), (2, 0), (2, 0), (2, 0), (2, 0), (2, 0), (2, 0), (2, 0), (2, 0), (2, 0), (2, 0), (2, 0), (2, 0), (2, 0), (2, 0), (2, 0), (2, 0), (2, 0), (2, 0), (2, 0), (2, 0), (2, 0), (2, 0), (2, 0), (2, 0), (2, 0), (2, 0), (2, 0), (2, 0), (2, 0), (2, 0), (2, 0), (2, 0), (2, 0), (2, 0), (2, 0), (1, 0), (1, 13), (3, 3)]
def ty_sk (s : Nat) : Nat × Nat := ty_skL.getD s (0, 0)
/-- a class's fields: is it a reference? -/
def ty_kdL : List (List Bool) := [[true, false, false, true, false, true, false, true, true, true], [true, true, true, true], [true, true, true, true, false, false, true, false, true, true, false, true, true, false], [false, true, true, true, false, true, false], [true, true, false, false, true], [true, true, true, true, true, true, false, true, false, true, true, false, false, true, false, false], [true, false, false], [false], [true, true, true, true, true, false, true, false], [true, true, true, true, true, false, true, false], [true, true, true, false], [false, false, false, false, true], [false, false, true, false, false, false, false, false, false, false], [true, true, true, true, true, true, true, false, false, false, false, false, false, false, true, true, true, true, true, true, true, true, true, true, true, false, false, false, false, false, false, false, false, false, false, false, false, false, false, false, false, true, true, true, true, true, true, true, true, true, true, true, true, true, true, true, true, true, true, true, true, true, true, false]]
def ty_kd (ci : Nat) : List Bool := ty_kdL.getD ci []
def ty_op (i : Nat) : Nat := match i with
  | 0 => 0
  | 1 => 2
  | _ => 3
def ty_fl (S : ty_S) (a : ai_A) : Nat → List Bool → List ai_V
  | _, [] => []
  | k, r :: t => (if r = true then .inr (.inr (S.2.1 a k)) else .inl (ty_J (S.1 a k))) :: ty_fl S a (k + 1) t
def ty_cell (S : ty_S) (a : ai_A) : ai_C := match ty_sk a.1 with
  | (1, ci) => .inl (ci, ty_fl S a 0 (ty_kd ci))
  | (2, t) => .inr (.inl (t, S.2.2.2.2.2.1 a, .inl fun j => ty_J (S.2.2.1 a j)))
  | (3, t) => .inr (.inl (t, S.2.2.2.2.2.1 a, .inr (.inl fun j => S.2.2.2.2.1 j)))
  | (4, t) => .inr (.inl (t, S.2.2.2.2.2.1 a, .inr (.inr fun j => S.2.2.2.1 a j)))
  | (5, k) => .inr (.inr k)
  | _ => .inr (.inr (ty_op a.2))
def ty_H (S : ty_S) : ai_H := (fun a => if a.2 < S.2.2.2.2.2.2.1 a.1 then some (ty_cell S a) else none, S.2.2.2.2.2.2.1, S.2.2.2.2.2.2.2.1, S.2.2.2.2.2.2.2.2)
/-- writes -/
def ty_sI (S : ty_S) (a : ai_A) (k : Nat) (v : Int) : ty_S := (fun b j => if b = a ∧ j = k then v else S.1 b j, S.2)
def ty_sR (S : ty_S) (a : ai_A) (k : Nat) (v : Option ai_A) : ty_S := (S.1, fun b j => if b = a ∧ j = k then v else S.2.1 b j, S.2.2)
def ty_sA (S : ty_S) (a : ai_A) (i v : Int) : ty_S := (S.1, S.2.1, fun b j => if b = a ∧ j = i then v else S.2.2.1 b j, S.2.2.2)
def ty_sQ (S : ty_S) (a : ai_A) (i : Int) (v : Option ai_A) : ty_S := (S.1, S.2.1, S.2.2.1, fun b j => if b = a ∧ j = i then v else S.2.2.2.1 b j, S.2.2.2.2)
def ty_sZ (S : ty_S) (i : Int) (v : Int64) : ty_S := (S.1, S.2.1, S.2.2.1, S.2.2.2.1, fun j => if j = i then v else S.2.2.2.2.1 j, S.2.2.2.2.2)
/-- whole arrays -/
def ty_mA (S : ty_S) (a : ai_A) (f : Int → Int) : ty_S := (S.1, S.2.1, fun b => if b = a then f else S.2.2.1 b, S.2.2.2)
def ty_mQ (S : ty_S) (a : ai_A) (f : Int → Option ai_A) : ty_S := (S.1, S.2.1, S.2.2.1, fun b => if b = a then f else S.2.2.2.1 b, S.2.2.2.2)
/-- makings: of an object (n fields), of an array of n -/
def ty_nO (S : ty_S) (s n : Nat) : ty_S := (fun b j => if b = (s, S.2.2.2.2.2.2.1 s) then 0 else S.1 b j, fun b j => if b = (s, S.2.2.2.2.2.2.1 s) then none else S.2.1 b j, S.2.2.1, S.2.2.2.1, S.2.2.2.2.1, S.2.2.2.2.2.1,
  fun j => if j = s then S.2.2.2.2.2.2.1 s + 1 else S.2.2.2.2.2.2.1 j, S.2.2.2.2.2.2.2.1 + 1, S.2.2.2.2.2.2.2.2 + n)
def ty_nA (S : ty_S) (s n : Nat) : ty_S := (S.1, S.2.1, fun b => if b = (s, S.2.2.2.2.2.2.1 s) then fun _ => 0 else S.2.2.1 b, fun b => if b = (s, S.2.2.2.2.2.2.1 s) then fun _ => none else S.2.2.2.1 b, if (ty_sk s).1 = 3 then fun _ => 0 else S.2.2.2.2.1, fun b => if b = (s, S.2.2.2.2.2.2.1 s) then n else S.2.2.2.2.2.1 b,
  fun j => if j = s then S.2.2.2.2.2.2.1 s + 1 else S.2.2.2.2.2.2.1 j, S.2.2.2.2.2.2.2.1 + 1, S.2.2.2.2.2.2.2.2 + n)
/-- a throw's cost; a caught exception -/
def ty_th (S : ty_S) : ty_S := (S.1, S.2.1, S.2.2.1, S.2.2.2.1, S.2.2.2.2.1, S.2.2.2.2.2.1, S.2.2.2.2.2.2.1, S.2.2.2.2.2.2.2.1 + 1, S.2.2.2.2.2.2.2.2 + 6)
def ty_ex (S : ty_S) : ty_S := (S.1, S.2.1, S.2.2.1, S.2.2.2.1, S.2.2.2.2.1, S.2.2.2.2.2.1, fun j => if j = 1 then S.2.2.2.2.2.2.1 1 + 1 else S.2.2.2.2.2.2.1 j, S.2.2.2.2.2.2.2.1, S.2.2.2.2.2.2.2.2)
theorem ty_H_at {S : ty_S} {a : ai_A} (h : a.2 < S.2.2.2.2.2.2.1 a.1) : (ty_H S).1 a = some (ty_cell S a) := if_pos h
theorem ty_cell_o {S : ty_S} {a : ai_A} {ci : Nat} (h : ty_sk a.1 = (1, ci)) : ty_cell S a = .inl (ci, ty_fl S a 0 (ty_kd ci)) := by simp only [ty_cell, h]
theorem ty_cell_i {S : ty_S} {a : ai_A} {t : Nat} (h : ty_sk a.1 = (2, t)) : ty_cell S a = .inr (.inl (t, S.2.2.2.2.2.1 a, .inl fun j => ty_J (S.2.2.1 a j))) := by simp only [ty_cell, h]
theorem ty_cell_l {S : ty_S} {a : ai_A} {t : Nat} (h : ty_sk a.1 = (3, t)) : ty_cell S a = .inr (.inl (t, S.2.2.2.2.2.1 a, .inr (.inl fun j => S.2.2.2.2.1 j))) := by simp only [ty_cell, h]
theorem ty_cell_q {S : ty_S} {a : ai_A} {t : Nat} (h : ty_sk a.1 = (4, t)) : ty_cell S a = .inr (.inl (t, S.2.2.2.2.2.1 a, .inr (.inr fun j => S.2.2.2.1 a j))) := by simp only [ty_cell, h]
theorem ty_fl_at {S : ty_S} {a : ai_A} : ∀ (ks : List Bool) (j k : Nat) (r : Bool), ks[k]? = some r → (ty_fl S a j ks)[k]? = some (if r = true then .inr (.inr (S.2.1 a (j + k))) else .inl (ty_J (S.1 a (j + k))))
  | [], _, _, _, h => by simp at h
  | b :: ks, j, 0, r, h => by
    simp only [List.getElem?_cons_zero, Option.some.injEq] at h
    subst h
    rfl
  | b :: ks, j, k + 1, r, h => by
    simp only [List.getElem?_cons_succ] at h
    have := ty_fl_at (S := S) (a := a) ks (j + 1) k r h
    rw [show j + 1 + k = j + (k + 1) by omega] at this
    exact this
theorem ty_fl_len {S : ty_S} {a : ai_A} : ∀ (ks : List Bool) (j : Nat), (ty_fl S a j ks).length = ks.length
  | [], _ => rfl
  | _ :: ks, j => congrArg (· + 1) (ty_fl_len ks (j + 1))
/-- fields that look alike -/
theorem ty_fl_eq {S S' : ty_S} {a : ai_A} : ∀ (ks : List Bool) (j : Nat), (∀ k, j ≤ k → S.1 a k = S'.1 a k) → (∀ k, j ≤ k → S.2.1 a k = S'.2.1 a k) → ty_fl S a j ks = ty_fl S' a j ks
  | [], _, _, _ => rfl
  | b :: ks, j, h1, h2 => by
    unfold ty_fl
    rw [h1 j (Nat.le_refl _), h2 j (Nat.le_refl _), ty_fl_eq ks (j + 1) (fun k hk => h1 k (by omega)) (fun k hk => h2 k (by omega))]
theorem ty_fl_setI {S : ty_S} {a : ai_A} {v : Int} : ∀ (ks : List Bool) (j k : Nat), ks[k]? = some false → (ty_fl S a j ks).set k (.inl (ty_J v)) = ty_fl (ty_sI S a (j + k) v) a j ks
  | [], _, _, h => by simp at h
  | b :: ks, j, 0, h => by
    simp only [List.getElem?_cons_zero, Option.some.injEq] at h
    subst h
    show Sum.inl (ty_J v) :: ty_fl S a (j + 1) ks = Sum.inl (ty_J ((ty_sI S a (j + 0) v).1 a j)) :: ty_fl (ty_sI S a (j + 0) v) a (j + 1) ks
    have e : ty_fl S a (j + 1) ks = ty_fl (ty_sI S a (j + 0) v) a (j + 1) ks := ty_fl_eq ks (j + 1) (fun k hk => by
      simp only [ty_sI]
      rw [if_neg (fun z => absurd z.2 (by omega))]) (fun k hk => rfl)
    have e2 : (ty_sI S a (j + 0) v).1 a j = v := by simp [ty_sI]
    rw [← e, e2]
  | b :: ks, j, k + 1, h => by
    simp only [List.getElem?_cons_succ] at h
    have ih := ty_fl_setI (S := S) (a := a) (v := v) ks (j + 1) k h
    rw [show j + 1 + k = j + (k + 1) by omega] at ih
    unfold ty_fl
    rw [List.set_cons_succ, ih]
    have e1 : (ty_sI S a (j + (k + 1)) v).1 a j = S.1 a j := by
      simp only [ty_sI]
      rw [if_neg (fun z => absurd z.2 (by omega))]
    rw [e1]
    rfl
theorem ty_fl_setR {S : ty_S} {a : ai_A} {v : Option ai_A} : ∀ (ks : List Bool) (j k : Nat), ks[k]? = some true → (ty_fl S a j ks).set k (.inr (.inr v)) = ty_fl (ty_sR S a (j + k) v) a j ks
  | [], _, _, h => by simp at h
  | b :: ks, j, 0, h => by
    simp only [List.getElem?_cons_zero, Option.some.injEq] at h
    subst h
    show Sum.inr (Sum.inr v) :: ty_fl S a (j + 1) ks = Sum.inr (Sum.inr ((ty_sR S a (j + 0) v).2.1 a j)) :: ty_fl (ty_sR S a (j + 0) v) a (j + 1) ks
    have e : ty_fl S a (j + 1) ks = ty_fl (ty_sR S a (j + 0) v) a (j + 1) ks := ty_fl_eq ks (j + 1) (fun k hk => rfl) (fun k hk => by
      simp only [ty_sR]
      rw [if_neg (fun z => absurd z.2 (by omega))])
    have e2 : (ty_sR S a (j + 0) v).2.1 a j = v := by simp [ty_sR]
    rw [← e, e2]
  | b :: ks, j, k + 1, h => by
    simp only [List.getElem?_cons_succ] at h
    have ih := ty_fl_setR (S := S) (a := a) (v := v) ks (j + 1) k h
    rw [show j + 1 + k = j + (k + 1) by omega] at ih
    unfold ty_fl
    rw [List.set_cons_succ, ih]
    have e1 : (ty_sR S a (j + (k + 1)) v).2.1 a j = S.2.1 a j := by
      simp only [ty_sR]
      rw [if_neg (fun z => absurd z.2 (by omega))]
    rw [e1]
    rfl
/-- two states whose cells are alike are one heap -/
theorem ty_H_ext {S S' : ty_S} {f : ai_A → Option ai_C} (hc : S'.2.2.2.2.2.2 = S.2.2.2.2.2.2) (h : ∀ a, f a = if a.2 < S.2.2.2.2.2.2.1 a.1 then some (ty_cell S' a) else none) : ((f, (ty_H S).2) : ai_H) = ty_H S' := by
  have e1 : f = (ty_H S').1 := by
    funext a
    rw [h a]
    show _ = if a.2 < S'.2.2.2.2.2.2.1 a.1 then some (ty_cell S' a) else none
    rw [hc]
  rw [e1]
  show ((ty_H S').1, (ty_H S).2) = ((ty_H S').1, (ty_H S').2)
  have e2 : (ty_H S).2 = (ty_H S').2 := by
    show (S.2.2.2.2.2.2.1, S.2.2.2.2.2.2.2.1, S.2.2.2.2.2.2.2.2) = (S'.2.2.2.2.2.2.1, S'.2.2.2.2.2.2.2.1, S'.2.2.2.2.2.2.2.2)
    rw [hc]
  rw [e2]
theorem ty_put {S S' : ty_S} {a : ai_A} {x : ai_C} (hc : S'.2.2.2.2.2.2 = S.2.2.2.2.2.2) (hp : a.2 < S.2.2.2.2.2.2.1 a.1) (hx : ty_cell S' a = x) (ho : ∀ b, b ≠ a → ty_cell S' b = ty_cell S b) : ai_put (ty_H S) a x = ty_H S' := by
  refine ty_H_ext (f := ai_upd (ty_H S).1 a x) hc (fun b => ?_)
  by_cases e : b = a
  · subst e
    rw [if_pos hp, hx]
    simp [ai_upd]
  · show (if b = a then some x else (ty_H S).1 b) = _
    rw [if_neg e, ho b e]
    rfl
theorem ty_cell_sI {S : ty_S} {a b : ai_A} {k : Nat} {v : Int} (h : b ≠ a) : ty_cell (ty_sI S a k v) b = ty_cell S b := by
  unfold ty_cell
  split <;> first | rfl | (rw [ty_fl_eq (S := ty_sI S a k v) (S' := S) _ 0 (fun j _ => (by simp [ty_sI, h])) (fun j _ => rfl)])
theorem ty_cell_sR {S : ty_S} {a b : ai_A} {k : Nat} {v : Option ai_A} (h : b ≠ a) : ty_cell (ty_sR S a k v) b = ty_cell S b := by
  unfold ty_cell
  split <;> first | rfl | (rw [ty_fl_eq (S := ty_sR S a k v) (S' := S) _ 0 (fun j _ => rfl) (fun j _ => (by simp [ty_sR, h]))])
theorem ty_cell_sA {S : ty_S} {a b : ai_A} {i v : Int} (h : b ≠ a) : ty_cell (ty_sA S a i v) b = ty_cell S b := by
  unfold ty_cell
  split <;> first | rfl | (simp [ty_sA, h]; done) | (rw [ty_fl_eq (S := ty_sA S a i v) (S' := S) _ 0 (fun j _ => rfl) (fun j _ => rfl)])
theorem ty_cell_sQ {S : ty_S} {a b : ai_A} {i : Int} {v : Option ai_A} (h : b ≠ a) : ty_cell (ty_sQ S a i v) b = ty_cell S b := by
  unfold ty_cell
  split <;> first | rfl | (simp [ty_sQ, h]; done) | (rw [ty_fl_eq (S := ty_sQ S a i v) (S' := S) _ 0 (fun j _ => rfl) (fun j _ => rfl)])
theorem ty_cell_mA {S : ty_S} {a b : ai_A} {f : Int → Int} (h : b ≠ a) : ty_cell (ty_mA S a f) b = ty_cell S b := by
  unfold ty_cell
  split <;> first | rfl | (simp [ty_mA, h]; done) | (rw [ty_fl_eq (S := ty_mA S a f) (S' := S) _ 0 (fun j _ => rfl) (fun j _ => rfl)])
theorem ty_cell_mQ {S : ty_S} {a b : ai_A} {f : Int → Option ai_A} (h : b ≠ a) : ty_cell (ty_mQ S a f) b = ty_cell S b := by
  unfold ty_cell
  split <;> first | rfl | (simp [ty_mQ, h]; done) | (rw [ty_fl_eq (S := ty_mQ S a f) (S' := S) _ 0 (fun j _ => rfl) (fun j _ => rfl)])
/-- makings -/
theorem ty_new {S S' : ty_S} {s n : Nat} {x : ai_C} (hc : S'.2.2.2.2.2.2.1 = fun j => if j = s then S.2.2.2.2.2.2.1 s + 1 else S.2.2.2.2.2.2.1 j) (hn : S'.2.2.2.2.2.2.2 = (S.2.2.2.2.2.2.2.1 + 1, S.2.2.2.2.2.2.2.2 + n)) (hx : ty_cell S' (s, S.2.2.2.2.2.2.1 s) = x) (ho : ∀ b, b ≠ (s, S.2.2.2.2.2.2.1 s) → ty_cell S' b = ty_cell S b) : ai_new (ty_H S) s x n = ty_H S' := by
  have e1 : ai_upd (ty_H S).1 (s, S.2.2.2.2.2.2.1 s) x = (ty_H S').1 := by
    funext b
    show (if b = (s, S.2.2.2.2.2.2.1 s) then some x else if b.2 < S.2.2.2.2.2.2.1 b.1 then some (ty_cell S b) else none) = if b.2 < S'.2.2.2.2.2.2.1 b.1 then some (ty_cell S' b) else none
    rw [hc]
    by_cases e : b = (s, S.2.2.2.2.2.2.1 s)
    · rw [if_pos e, e, hx]
      simp
    · rw [if_neg e, ho b e]
      by_cases e2 : b.1 = s
      · have e3 : b.2 ≠ S.2.2.2.2.2.2.1 s := fun z => e (Prod.ext e2 z)
        simp only [e2, if_true]
        by_cases e4 : b.2 < S.2.2.2.2.2.2.1 s
        · rw [if_pos e4, if_pos (by omega)]
        · rw [if_neg e4, if_neg (by omega)]
      · simp only [e2, if_false]
  have e3 : (S'.2.2.2.2.2.2.2.1, S'.2.2.2.2.2.2.2.2) = (S.2.2.2.2.2.2.2.1 + 1, S.2.2.2.2.2.2.2.2 + n) := hn
  show (ai_upd (ty_H S).1 (s, S.2.2.2.2.2.2.1 s) x, (fun j => if j = s then S.2.2.2.2.2.2.1 s + 1 else S.2.2.2.2.2.2.1 j), S.2.2.2.2.2.2.2.1 + 1, S.2.2.2.2.2.2.2.2 + n) = ((ty_H S').1, S'.2.2.2.2.2.2.1, S'.2.2.2.2.2.2.2.1, S'.2.2.2.2.2.2.2.2)
  rw [e1, hc]
  simp only [Prod.mk.injEq] at e3
  rw [e3.1, e3.2]
theorem ty_none {S : ty_S} {s : Nat} : ((ty_H S).1 (s, (ty_H S).2.1 s)).isNone = true := by
  show (if S.2.2.2.2.2.2.1 s < S.2.2.2.2.2.2.1 s then some (ty_cell S (s, S.2.2.2.2.2.2.1 s)) else none).isNone = true
  rw [if_neg (Nat.lt_irrefl _)]
  rfl
theorem ty_cell_nO {S : ty_S} {s n : Nat} {b : ai_A} (h : b ≠ (s, S.2.2.2.2.2.2.1 s)) : ty_cell (ty_nO S s n) b = ty_cell S b := by
  unfold ty_cell
  split <;> first | rfl | (rw [ty_fl_eq (S := ty_nO S s n) (S' := S) _ 0 (fun j _ => (by simp [ty_nO, h])) (fun j _ => (by simp [ty_nO, h]))])
theorem ty_cell_nA {S : ty_S} {s n : Nat} {b : ai_A} (h : b ≠ (s, S.2.2.2.2.2.2.1 s)) (h3 : (ty_sk s).1 ≠ 3) : ty_cell (ty_nA S s n) b = ty_cell S b := by
  unfold ty_cell
  split <;> first | rfl | (simp [ty_nA, h, h3]; done) | (rw [ty_fl_eq (S := ty_nA S s n) (S' := S) _ 0 (fun j _ => rfl) (fun j _ => rfl)])
