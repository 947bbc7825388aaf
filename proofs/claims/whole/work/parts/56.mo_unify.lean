/-! MAKING TERMS SAME, as mathematics. -/
def mo_up (f : Int → Int) (v x : Int) : Int → Int := fun j => if j = v then x else f j
def mo_upc (f : Int → List Int) (v : Int) (l : List Int) : Int → List Int := fun j => if j = v then l else f j
/-- the arguments' pairs, the first on top -/
def mo_al (G : mo_G) (x y : Int) : Nat → List (Int × Int) → List (Int × Int)
  | 0, ps => ps
  | m + 1, ps => mo_al G x y m ((mo_g G x m, mo_g G y m) :: ps)
abbrev mo_U : Type := List (Int × Int) × (Int → Int) × (Int → List Int) × List Int × Bool
def mo_u1 (G : mo_G) (tr : Bool) (x y : Int) (ps : List (Int × Int)) (bd : Int → Int) (ch : Int → List Int) (wk : List Int) (fl : Bool) : Option mo_U :=
  if 0 ≤ x ∧ 0 ≤ y then (if mo_l G x = mo_l G y ∧ mo_a G x = mo_a G y then some (mo_al G x y (mo_a G x).toNat ps, bd, ch, wk, fl) else none)
  else if x < 0 ∧ y < 0 then (if x = y then some (ps, bd, ch, wk, fl)
    else if x < y then some (ps, mo_up bd (-1 - x) y, if tr = true then ch else mo_upc ch (-1 - y) (ch (-1 - y) ++ ch (-1 - x)), wk, true)
    else some (ps, mo_up bd (-1 - y) x, if tr = true then ch else mo_upc ch (-1 - x) (ch (-1 - x) ++ ch (-1 - y)), wk, true))
  else if x < 0 then some (ps, mo_up bd (-1 - x) y, ch, if tr = true then wk else wk ++ ch (-1 - x), true)
  else some (ps, mo_up bd (-1 - y) x, ch, if tr = true then wk else wk ++ ch (-1 - y), true)
/-- 0 it fails, 1 they are same, 2 too many steps; then the steps, what is bound, the chains, what woke, whether anything was bound -/
def mo_un (G : mo_G) (tr : Bool) : Nat → Int → mo_U → Int × Int × (Int → Int) × (Int → List Int) × List Int × Bool
  | 0, st, u => (3, st, u.2)
  | _ + 1, st, ([], u) => (1, st, u)
  | m + 1, st, (p :: ps, bd, ch, wk, fl) => if 500 ≤ st then (2, st, bd, ch, wk, fl) else match mo_u1 G tr (mo_val G bd p.1) (mo_val G bd p.2) ps bd ch wk fl with
    | none => (0, st + 1, bd, ch, wk, fl)
    | some u => mo_un G tr m (st + 1) u
/-- a stack of pairs in two rows -/
def mo_stk (l r : Int → Int) : Int → List (Int × Int) → Prop
  | n, [] => n = 0
  | n, p :: ps => 0 < n ∧ l (n - 1) = p.1 ∧ r (n - 1) = p.2 ∧ mo_stk l r (n - 1) ps
theorem mo_stk_len {l r : Int → Int} : ∀ {ps : List (Int × Int)} {n : Int}, mo_stk l r n ps → n = ps.length
  | [], n, h => by
    have h : n = 0 := h
    simp [h]
  | p :: ps, n, h => by
    have := mo_stk_len h.2.2.2
    simp only [List.length_cons]
    omega
theorem mo_stk_eq {l r l' r' : Int → Int} : ∀ {ps : List (Int × Int)} {n : Int}, (∀ i, 0 ≤ i → i < n → l' i = l i ∧ r' i = r i) → mo_stk l r n ps → mo_stk l' r' n ps
  | [], n, _, h => h
  | p :: ps, n, e, h => by
    obtain ⟨h0, h1, h2, h3⟩ := h
    have h9 := mo_stk_len h3
    have e1 := e (n - 1) (by omega) (by omega)
    exact ⟨h0, by rw [e1.1]; exact h1, by rw [e1.2]; exact h2, mo_stk_eq (fun i a b => e i a (by omega)) h3⟩
theorem mo_stk_put {l r : Int → Int} {n x y : Int} {ps : List (Int × Int)} (h : mo_stk l r n ps) : mo_stk (mo_up l n x) (mo_up r n y) (n + 1) ((x, y) :: ps) := by
  have h9 := mo_stk_len h
  refine ⟨by omega, ?_, ?_, ?_⟩
  · rw [show n + 1 - 1 = n by omega]
    simp [mo_up]
  · rw [show n + 1 - 1 = n by omega]
    simp [mo_up]
  · rw [show n + 1 - 1 = n by omega]
    refine mo_stk_eq (fun i a b => ?_) h
    simp only [mo_up]
    exact ⟨if_neg (by omega), if_neg (by omega)⟩
/-- a list in a row -/
def mo_at (w : Int → Int) : Int → List Int → Prop
  | _, [] => True
  | i, e :: es => w i = e ∧ mo_at w (i + 1) es
theorem mo_at_eq {w w' : Int → Int} : ∀ {l : List Int} {i : Int}, (∀ j, i ≤ j → j < i + l.length → w' j = w j) → mo_at w i l → mo_at w' i l
  | [], _, _, h => h
  | x :: l, i, e, h => by
    simp only [List.length_cons] at e
    exact ⟨by rw [e i (by omega) (by omega)]; exact h.1, mo_at_eq (fun j a b => e j (by omega) (by omega)) h.2⟩
theorem mo_at_app {w : Int → Int} : ∀ {l m : List Int} {i : Int}, mo_at w i (l ++ m) ↔ mo_at w i l ∧ mo_at w (i + l.length) m
  | [], m, i => by simp [mo_at]
  | x :: l, m, i => by
    have ih := mo_at_app (w := w) (l := l) (m := m) (i := i + 1)
    have e : i + 1 + (l.length : Int) = i + ((x :: l).length : Int) := by
      simp only [List.length_cons]
      omega
    rw [e] at ih
    simp only [List.cons_append, mo_at]
    rw [ih, and_assoc]
/-- a chain of links -/
def mo_lnk (nx : Int → Int) : Int → List Int → Prop
  | p, [] => p = -1
  | p, e :: es => p = e ∧ 0 ≤ e ∧ mo_lnk nx (nx e) es
def mo_last : List Int → Int
  | [] => -1
  | e :: [] => e
  | _ :: e :: es => mo_last (e :: es)
theorem mo_last_app : ∀ (l m : List Int), m ≠ [] → mo_last (l ++ m) = mo_last m
  | [], m, _ => rfl
  | [x], m, h => by
    cases m with
    | nil => exact absurd rfl h
    | cons y m => rfl
  | x :: y :: l, m, h => by
    have := mo_last_app (y :: l) m h
    exact this
theorem mo_last_mem : ∀ {l : List Int}, l ≠ [] → mo_last l ∈ l
  | [], h => absurd rfl h
  | [x], _ => List.mem_cons_self
  | _ :: y :: l, _ => List.mem_cons_of_mem _ (mo_last_mem (l := y :: l) (by simp))
theorem mo_lnk_eq {nx nx' : Int → Int} : ∀ {l : List Int} {p : Int}, (∀ e ∈ l, nx' e = nx e) → mo_lnk nx p l → mo_lnk nx' p l
  | [], _, _, h => h
  | e :: es, _, q, h => ⟨h.1, h.2.1, by
    rw [q e List.mem_cons_self]
    exact mo_lnk_eq (fun x hx => q x (List.mem_cons_of_mem _ hx)) h.2.2⟩
theorem mo_lnk_nil {nx : Int → Int} {p : Int} {l : List Int} (h : mo_lnk nx p l) : p = -1 ↔ l = [] := by
  cases l with
  | nil => exact ⟨fun _ => rfl, fun _ => h⟩
  | cons e es =>
    obtain ⟨h1, h2, -⟩ := h
    exact ⟨fun z => by omega, fun z => by cases z⟩
/-- a chain's end leads nowhere -/
theorem mo_lnk_last {nx : Int → Int} : ∀ {l : List Int} {p : Int}, mo_lnk nx p l → l ≠ [] → nx (mo_last l) = -1
  | [], _, _, h => absurd rfl h
  | [e], _, h, _ => h.2.2
  | e :: f :: es, _, h, _ => mo_lnk_last (l := f :: es) h.2.2 (by simp)
/-- two chains linked -/
theorem mo_lnk_app {nx : Int → Int} : ∀ {l m : List Int} {p q : Int}, mo_lnk nx p l → mo_lnk nx q m → l ≠ [] → l.Nodup → (∀ e ∈ l, e ∉ m) → mo_lnk (mo_up nx (mo_last l) q) p (l ++ m)
  | [], _, _, _, _, _, h, _, _ => absurd rfl h
  | [e], m, p, q, h1, h2, _, _, h4 => by
    refine ⟨h1.1, h1.2.1, ?_⟩
    have : mo_up nx (mo_last [e]) q e = q := by simp [mo_up, mo_last]
    show mo_lnk (mo_up nx (mo_last [e]) q) (mo_up nx (mo_last [e]) q e) ([] ++ m)
    rw [this]
    refine mo_lnk_eq (fun x hx => ?_) h2
    have : x ≠ e := fun z => h4 e List.mem_cons_self (z ▸ hx)
    simp [mo_up, mo_last, this]
  | e :: f :: es, m, p, q, h1, h2, _, h3, h4 => by
    obtain ⟨a, b, c⟩ := h1
    have hn := List.nodup_cons.mp h3
    refine ⟨a, b, ?_⟩
    have hm := mo_last_mem (l := f :: es) (by simp)
    have hne : e ≠ mo_last (f :: es) := fun z => hn.1 (z ▸ hm)
    have e1 : mo_up nx (mo_last (e :: f :: es)) q e = nx e := by
      show (if e = mo_last (f :: es) then q else nx e) = nx e
      rw [if_neg hne]
    show mo_lnk (mo_up nx (mo_last (e :: f :: es)) q) (mo_up nx (mo_last (e :: f :: es)) q e) ((f :: es) ++ m)
    rw [e1]
    exact mo_lnk_app (l := f :: es) c h2 (by simp) hn.2 (fun x hx => h4 x (List.mem_cons_of_mem _ hx))
/-- no more different numbers below n than n -/
theorem mo_count : ∀ (n : Nat) (l : List Int), l.Nodup → (∀ e ∈ l, 0 ≤ e ∧ e < n) → l.length ≤ n
  | 0, l, _, h => by
    cases l with
    | nil => simp
    | cons e es =>
      have := h e List.mem_cons_self
      omega
  | n + 1, l, hn, h => by
    have h1 := mo_count n (l.filter (fun e => decide (e ≠ (n : Int)))) (hn.filter _) (fun e he => by
      have h2 := List.mem_filter.mp he
      have h3 := h e h2.1
      have h4 : e ≠ (n : Int) := by simpa using h2.2
      omega)
    have h5 : l.length ≤ (l.filter (fun e => decide (e ≠ (n : Int)))).length + 1 := by
      clear h h1
      induction l with
      | nil => simp
      | cons x xs ih =>
        obtain ⟨a, b⟩ := List.nodup_cons.mp hn
        by_cases e : x = (n : Int)
        · have : xs.filter (fun e => decide (e ≠ (n : Int))) = xs := List.filter_eq_self.mpr (fun y hy => by
            have : y ≠ x := fun z => a (z ▸ hy)
            simp; omega)
          rw [List.filter_cons_of_neg (by simpa using e), this]
          simp
        · have ih := ih b
          rw [List.filter_cons_of_pos (by simpa using e)]
          simp only [List.length_cons]
          omega
    omega
