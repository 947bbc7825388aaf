/-! THE SEARCH AS MATHEMATICS, which class and reference both follow. A program: letters, arities, arguments, ranks of nodes; how many variables the text of a place has; which nodes are terms. A term is base * 624 + node; a value is a term that is no variable, or -1 - v for a free variable v. -/
abbrev mo_G : Type := (Int → Int) × (Int → Int) × (Int → Int) × (Int → Int) × (Int → Int) × (Int → Prop)
def mo_F : Int := -2147483648
def mo_l (G : mo_G) (t : Int) : Int := G.1 (t % 624)
def mo_a (G : mo_G) (t : Int) : Int := G.2.1 (t % 624)
def mo_g (G : mo_G) (t k : Int) : Int := t - t % 624 + G.2.2.1 (t % 624 * 3 + k)
def mo_v (G : mo_G) (t : Int) : Int := t / 624 + G.2.2.2.1 (t % 624)
def mo_wf (G : mo_G) : Prop := ∀ n, G.2.2.2.2.2 n → (0 ≤ n ∧ n < 624) ∧ (0 ≤ G.1 n ∧ G.1 n ≤ 65535) ∧ (0 ≤ G.2.1 n ∧ G.2.1 n ≤ 3) ∧ (∀ k, 0 ≤ k → k < G.2.1 n → G.2.2.2.2.2 (G.2.2.1 (n * 3 + k)) ∧ G.2.2.1 (n * 3 + k) / 48 = n / 48) ∧ (65 ≤ G.1 n ∧ G.1 n ≤ 90 → 0 ≤ G.2.2.2.1 n ∧ G.2.2.2.1 n < G.2.2.2.2.1 (n / 48)) ∧ 0 ≤ G.2.2.2.2.1 (n / 48)
def mo_ok (G : mo_G) (made t : Int) : Prop := 0 ≤ t ∧ G.2.2.2.2.2 (t % 624) ∧ t / 624 + G.2.2.2.2.1 (t % 624 / 48) ≤ made
/-- a bound variable leads to a term that is no variable, or to a variable made before it -/
def mo_bw (G : mo_G) (made : Int) (bd : Int → Int) : Prop := ∀ v, 0 ≤ v → v < made → bd v = mo_F ∨ (0 ≤ bd v ∧ mo_ok G made (bd v) ∧ ¬ (65 ≤ mo_l G (bd v) ∧ mo_l G (bd v) ≤ 90)) ∨ (bd v < 0 ∧ 0 ≤ -1 - bd v ∧ -1 - bd v < v)
def mo_d (bd : Int → Int) : Nat → Int → Int
  | 0, v => -1 - v
  | m + 1, v => if bd v = mo_F then -1 - v else if 0 ≤ bd v then bd v else mo_d bd m (-1 - bd v)
def mo_dv (bd : Int → Int) (v : Int) : Int := mo_d bd (v.toNat + 1) v
def mo_val (G : mo_G) (bd : Int → Int) (t : Int) : Int := if t < 0 then mo_dv bd (-1 - t) else if 65 ≤ mo_l G t ∧ mo_l G t ≤ 90 then mo_dv bd (mo_v G t) else t
/-- a value: a free variable, or a term that is none -/
def mo_isval (G : mo_G) (made : Int) (bd : Int → Int) (x : Int) : Prop := (x < 0 ∧ 0 ≤ -1 - x ∧ -1 - x < made ∧ bd (-1 - x) = mo_F) ∨ (0 ≤ x ∧ mo_ok G made x ∧ ¬ (65 ≤ mo_l G x ∧ mo_l G x ≤ 90))
theorem mo_d_more {bd : Int → Int} {G : mo_G} {made : Int} (h : mo_bw G made bd) : ∀ (m : Nat) (v : Int), 0 ≤ v → v < made → v.toNat < m → mo_d bd m v = mo_dv bd v := by
  intro m
  induction m using Nat.strongRecOn with
  | _ m ih =>
    intro v h0 h1 hm
    cases m with
    | zero => omega
    | succ m =>
      unfold mo_dv
      show (if bd v = mo_F then -1 - v else if 0 ≤ bd v then bd v else mo_d bd m (-1 - bd v)) = (if bd v = mo_F then -1 - v else if 0 ≤ bd v then bd v else mo_d bd v.toNat (-1 - bd v))
      by_cases e1 : bd v = mo_F
      · rw [if_pos e1, if_pos e1]
      · rw [if_neg e1, if_neg e1]
        by_cases e2 : 0 ≤ bd v
        · rw [if_pos e2, if_pos e2]
        · rw [if_neg e2, if_neg e2]
          rcases h v h0 h1 with z | z | z
          · exact absurd z e1
          · exact absurd z.1 e2
          · rw [ih m (by omega) (-1 - bd v) z.2.1 (by omega) (by omega)]
            by_cases e5 : v.toNat = m + 1
            · omega
            · rw [ih v.toNat (by omega) (-1 - bd v) z.2.1 (by omega) (by omega)]
/-- one step of the way to a value -/
theorem mo_dv_step {bd : Int → Int} {G : mo_G} {made : Int} (h : mo_bw G made bd) {v : Int} (h0 : 0 ≤ v) (h1 : v < made) : mo_dv bd v = if bd v = mo_F then -1 - v else if 0 ≤ bd v then bd v else mo_dv bd (-1 - bd v) := by
  have e : mo_dv bd v = (if bd v = mo_F then -1 - v else if 0 ≤ bd v then bd v else mo_d bd v.toNat (-1 - bd v)) := rfl
  rw [e]
  by_cases e1 : bd v = mo_F
  · rw [if_pos e1, if_pos e1]
  · rw [if_neg e1, if_neg e1]
    by_cases e2 : 0 ≤ bd v
    · rw [if_pos e2, if_pos e2]
    · rw [if_neg e2, if_neg e2]
      rcases h v h0 h1 with z | z | z
      · exact absurd z e1
      · exact absurd z.1 e2
      · exact mo_d_more h _ _ z.2.1 (by omega) (by omega)
theorem mo_dv_isval {bd : Int → Int} {G : mo_G} {made : Int} (h : mo_bw G made bd) : ∀ (m : Nat) (v : Int), v.toNat < m → 0 ≤ v → v < made → mo_isval G made bd (mo_dv bd v) := by
  intro m
  induction m with
  | zero => intro v hm; omega
  | succ m ih =>
    intro v hm h0 h1
    rw [mo_dv_step h h0 h1]
    by_cases e1 : bd v = mo_F
    · rw [if_pos e1]
      exact .inl ⟨by omega, by omega, by omega, by rw [show -1 - (-1 - v) = v by omega]; exact e1⟩
    · rw [if_neg e1]
      rcases h v h0 h1 with z | z | z
      · exact absurd z e1
      · rw [if_pos z.1]
        exact .inr ⟨z.1, z.2.1, z.2.2⟩
      · rw [if_neg (by omega)]
        exact ih _ (by omega) z.2.1 (by omega)
theorem mo_ok_var {G : mo_G} (hw : mo_wf G) {made t : Int} (h : mo_ok G made t) (hv : 65 ≤ mo_l G t ∧ mo_l G t ≤ 90) : 0 ≤ mo_v G t ∧ mo_v G t < made := by
  obtain ⟨h0, h1, h2⟩ := h
  obtain ⟨-, -, -, -, w5, -⟩ := hw _ h1
  have := w5 hv
  unfold mo_v
  have hb : 0 ≤ t / 624 := Int.ediv_nonneg h0 (by omega)
  omega
theorem mo_val_isval {G : mo_G} (hw : mo_wf G) {made : Int} {bd : Int → Int} (h : mo_bw G made bd) {t : Int} (ht : mo_ok G made t ∨ (t < 0 ∧ -1 - t < made)) : mo_isval G made bd (mo_val G bd t) := by
  unfold mo_val
  rcases ht with ht | ht
  · rw [if_neg (by have := ht.1; omega)]
    by_cases e : 65 ≤ mo_l G t ∧ mo_l G t ≤ 90
    · rw [if_pos e]
      obtain ⟨a, b⟩ := mo_ok_var hw ht e
      exact mo_dv_isval h _ _ (Nat.lt_succ_self _) a b
    · rw [if_neg e]
      exact .inr ⟨ht.1, ht, e⟩
  · rw [if_pos ht.1]
    exact mo_dv_isval h _ _ (Nat.lt_succ_self _) (by omega) ht.2
theorem mo_ok_arg {G : mo_G} (hw : mo_wf G) {made t k : Int} (h : mo_ok G made t) (h0 : 0 ≤ k) (hk : k < mo_a G t) : mo_ok G made (mo_g G t k) := by
  obtain ⟨h0', h1, h2⟩ := h
  obtain ⟨w1, -, -, w4, -⟩ := hw _ h1
  obtain ⟨a1, a2⟩ := w4 k h0 hk
  obtain ⟨b1, -⟩ := hw _ a1
  unfold mo_g
  generalize G.2.2.1 (t % 624 * 3 + k) = n at a1 a2 b1
  have e1 : (t - t % 624 + n) % 624 = n := by omega
  have e2 : (t - t % 624 + n) / 624 = t / 624 := by omega
  refine ⟨by omega, by rw [e1]; exact a1, ?_⟩
  rw [e1, e2, a2]
  exact h2
theorem mo_ok_up {G : mo_G} {made made' t : Int} (h : mo_ok G made t) (hm : made ≤ made') : mo_ok G made' t := ⟨h.1, h.2.1, by have := h.2.2; omega⟩
theorem mo_ok_le {G : mo_G} (hw : mo_wf G) {made t : Int} (h : mo_ok G made t) : t ≤ made * 624 + 623 := by
  obtain ⟨h0, h1, h2⟩ := h
  obtain ⟨w1, -, -, -, -, w6⟩ := hw _ h1
  omega
