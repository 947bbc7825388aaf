/-! The whole search in the class's rows. -/
theorem cv_un_split {on gb : Int → Int} : ∀ (m1 m2 : Nat) (f e x : Int → Int) (gc : Int), cv_un f e x on gb gc (m1 + m2) = cv_un (cv_un f e x on gb gc m1).1 (cv_un f e x on gb gc m1).2.1 (cv_un f e x on gb gc m1).2.2 on gb (gc - m1) m2
  | 0, m2, f, e, x, gc => by
    rw [Nat.zero_add, show gc - ((0 : Nat) : Int) = gc by omega]
    rfl
  | m1 + 1, m2, f, e, x, gc => by
    have h1 := cv_un_shift (f := f) (e := e) (x := x) (on := on) (gb := gb) (gc := gc - 1) m1
    have h2 := cv_un_shift (f := f) (e := e) (x := x) (on := on) (gb := gb) (gc := gc - 1) (m1 + m2)
    rw [show gc - 1 + 1 = gc by omega] at h1 h2
    rw [show m1 + 1 + m2 = m1 + m2 + 1 by omega, h2, h1, cv_un_split m1 m2, show gc - 1 - (m1 : Int) = gc - ((m1 + 1 : Nat) : Int) by omega]
theorem ca_sw_up {f on : Int → Int} {kept v j : Int} : ∀ (m : Nat), ca_sw (fun i => if i = v then 1 else f i) on kept m j = if j = v then 1 else ca_sw f on kept m j
  | 0 => rfl
  | m + 1 => by
    show (if j = on (kept + m) then 1 else ca_sw (fun i => if i = v then 1 else f i) on kept m j) = if j = v then 1 else if j = on (kept + m) then 1 else ca_sw f on kept m j
    rw [ca_sw_up m]
    by_cases e1 : j = v
    · rw [if_pos e1, if_pos e1]; simp
    · rw [if_neg e1, if_neg e1]
theorem ca_sw_split {f on : Int → Int} {kept : Int} {m1 : Nat} : ∀ (m2 : Nat), ca_sw f on kept (m1 + m2) = ca_sw (ca_sw f on (kept + m1) m2) on kept m1
  | 0 => rfl
  | m2 + 1 => by
    funext j
    show (if j = on (kept + ((m1 + m2 : Nat) : Int)) then 1 else ca_sw f on kept (m1 + m2) j) = ca_sw (fun i => if i = on (kept + m1 + m2) then 1 else ca_sw f on (kept + m1) m2 i) on kept m1 j
    rw [ca_sw_up, ca_sw_split m2, show kept + ((m1 + m2 : Nat) : Int) = kept + m1 + m2 by omega]
/-- what one place holds after links are taken back depends on what it held -/
theorem cv_un_at {f e x f' e' x' on gb : Int → Int} {gc : Int} : ∀ (m : Nat) (j : Int), (f' j = f j → (cv_un f' e' x' on gb gc m).1 j = (cv_un f e x on gb gc m).1 j) ∧ (e' j = e j → (cv_un f' e' x' on gb gc m).2.1 j = (cv_un f e x on gb gc m).2.1 j) ∧ (x' j = x j → (cv_un f' e' x' on gb gc m).2.2 j = (cv_un f e x on gb gc m).2.2 j)
  | 0, j => ⟨id, id, id⟩
  | m + 1, j => by
    obtain ⟨h1, h2, h3⟩ := cv_un_at (f := f) (e := e) (x := x) (f' := f') (e' := e') (x' := x') (on := on) (gb := gb) (gc := gc) m j
    by_cases h : gb (gc - 1 - (m : Int)) = -1
    · rw [cv_un_pos (m := m) h, cv_un_pos (m := m) h]
      refine ⟨fun z => ?_, fun z => ?_, h3⟩
      · show (if j = on (gc - 1 - m) then -1 else _) = if j = on (gc - 1 - m) then -1 else _
        rw [h1 z]
      · show (if j = on (gc - 1 - m) then gb (gc - 1 - m) else _) = if j = on (gc - 1 - m) then gb (gc - 1 - m) else _
        rw [h2 z]
    · rw [cv_un_neg (m := m) h, cv_un_neg (m := m) h]
      refine ⟨h1, fun z => ?_, fun z => ?_⟩
      · show (if j = on (gc - 1 - m) then gb (gc - 1 - m) else _) = if j = on (gc - 1 - m) then gb (gc - 1 - m) else _
        rw [h2 z]
      · show (if j = gb (gc - 1 - m) then -1 else _) = if j = gb (gc - 1 - m) then -1 else _
        rw [h3 z]
/-- the rows that are taken back: bound, ones, bc; first, last, behind, on, gb, gc; waits, settled, sc -/
abbrev cs_A : Type := ((Int → Int) × (Int → Int) × Int) × ((Int → Int) × (Int → Int) × (Int → Int) × (Int → Int) × (Int → Int) × Int) × (Int → Int) × (Int → Int) × Int
def cs_arr (S : ty_S) (B F E : ai_A) : cs_A := ((S.2.2.1 B, S.2.2.1 (26, 0), S.1 (13, 0) 7), (S.2.2.1 F, S.2.2.1 E, S.2.2.1 (28, 0), S.2.2.1 (29, 0), S.2.2.1 (30, 0), S.1 (13, 0) 13), S.2.2.1 (45, 0), S.2.2.1 (46, 0), S.1 (39, 0) 7)
/-- taken back to kb, kg, ks they hold V -/
def cs_sn (A : cs_A) (kb kg ks : Int) (V : mo_V) : Prop := cv_rv (cv_fr A.1.1 A.1.2.1 kb (A.1.2.2 - kb).toNat) (cv_un A.2.1.1 A.2.1.2.1 A.2.1.2.2.1 A.2.1.2.2.2.1 A.2.1.2.2.2.2.1 A.2.1.2.2.2.2.2 (A.2.1.2.2.2.2.2 - kg).toNat).1 (cv_un A.2.1.1 A.2.1.2.1 A.2.1.2.2.1 A.2.1.2.2.2.1 A.2.1.2.2.2.2.1 A.2.1.2.2.2.2.2 (A.2.1.2.2.2.2.2 - kg).toNat).2.1 (cv_un A.2.1.1 A.2.1.2.1 A.2.1.2.2.1 A.2.1.2.2.2.1 A.2.1.2.2.2.2.1 A.2.1.2.2.2.2.2 (A.2.1.2.2.2.2.2 - kg).toNat).2.2 V.1 V.2.1 V.2.2.1 ∧
  (∀ j, 0 ≤ j → j < V.2.2.2.2.2.1 → ca_sw A.2.2.1 A.2.2.2.1 ks (A.2.2.2.2 - ks).toNat j = if V.2.2.2.2.2.2 j = true then 1 else 0) ∧ ∀ v, 0 ≤ v → v < V.1 → V.2.1 v = mo_F → ∀ c ∈ V.2.2.1 v, 0 ≤ c ∧ c < V.2.2.2.1
abbrev cs_l : Type := Int × Int × Int × Nat × Int × Int × Int
/-- the choices, the newest first; none of its marks above l: kb, kg, ks, goals in use, made, ns, an -/
def cs_ck (S : ty_S) (A : cs_A) : cs_l → List mo_Ch → Prop
  | _, [] => True
  | l, (t, i, todo, V) :: cs => ∃ (kb kg ks : Int) (u : Nat), (0 ≤ kb ∧ kb ≤ l.1 ∧ 0 ≤ kg ∧ kg ≤ l.2.1 ∧ 0 ≤ ks ∧ ks ≤ l.2.2.1 ∧ u ≤ l.2.2.2.1) ∧ (0 ≤ V.1 ∧ V.1 ≤ l.2.2.2.2.1 ∧ 0 ≤ V.2.2.2.1 ∧ V.2.2.2.1 ≤ l.2.2.2.2.2.1 ∧ 0 ≤ V.2.2.2.2.2.1 ∧ V.2.2.2.2.2.1 ≤ l.2.2.2.2.2.2) ∧
    (S.1 (52, cs.length) 0 = t ∧ S.1 (52, cs.length) 1 = i ∧ S.1 (52, cs.length) 3 = u ∧ S.1 (52, cs.length) 4 = V.1 ∧ S.1 (52, cs.length) 5 = kb ∧ S.1 (52, cs.length) 6 = V.2.2.2.1 ∧ S.1 (52, cs.length) 7 = kg ∧ S.1 (52, cs.length) 8 = V.2.2.2.2.2.1 ∧ S.1 (52, cs.length) 9 = ks) ∧ cs_td S u (S.2.1 (52, cs.length) 2) todo ∧ cs_sn A kb kg ks V ∧ cs_ck S A (kb, kg, ks, u, V.1, V.2.2.2.1, V.2.2.2.2.2.1) cs
theorem cs_ck_keep {S S' : ty_S} {A A' : cs_A} : ∀ (cs : List mo_Ch) (l l' : cs_l), cs_ck S A l cs → (l.1 ≤ l'.1 ∧ l.2.1 ≤ l'.2.1 ∧ l.2.2.1 ≤ l'.2.2.1 ∧ l.2.2.2.1 ≤ l'.2.2.2.1 ∧ l.2.2.2.2.1 ≤ l'.2.2.2.2.1 ∧ l.2.2.2.2.2.1 ≤ l'.2.2.2.2.2.1 ∧ l.2.2.2.2.2.2 ≤ l'.2.2.2.2.2.2) → (∀ i, i < cs.length → ∀ j, S'.1 (52, i) j = S.1 (52, i) j ∧ S'.2.1 (52, i) j = S.2.1 (52, i) j) → (∀ i, i < l.2.2.2.1 → ∀ j, S'.1 (49, i) j = S.1 (49, i) j ∧ S'.2.1 (49, i) j = S.2.1 (49, i) j) →
    (∀ kb kg ks V, 0 ≤ kb → kb ≤ l.1 → 0 ≤ kg → kg ≤ l.2.1 → 0 ≤ ks → ks ≤ l.2.2.1 → V.1 ≤ l.2.2.2.2.1 → V.2.2.2.1 ≤ l.2.2.2.2.2.1 → V.2.2.2.2.2.1 ≤ l.2.2.2.2.2.2 → cs_sn A kb kg ks V → cs_sn A' kb kg ks V) → cs_ck S' A' l' cs
  | [], _, _, _, _, _, _, _ => trivial
  | (t, i, todo, V) :: cs, l, l', h, hl, h52, h49, hsn => by
    obtain ⟨kb, kg, ks, u, a1, a2, a3, a4, a5, a6⟩ := h
    refine ⟨kb, kg, ks, u, by omega, by omega, ?_, ?_, hsn kb kg ks V a1.1 a1.2.1 a1.2.2.1 a1.2.2.2.1 a1.2.2.2.2.1 a1.2.2.2.2.2.1 a2.2.1 a2.2.2.2.1 a2.2.2.2.2.2 a5, ?_⟩
    · have e := fun j => (h52 cs.length (by simp) j).1
      rw [e, e, e, e, e, e, e, e, e]
      exact a3
    · rw [(h52 cs.length (by simp) _).2]
      exact cs_td_eq (fun q hq => h49 q (by omega)) a4
    · refine cs_ck_keep cs (kb, kg, ks, u, V.1, V.2.2.2.1, V.2.2.2.2.2.1) _ a6 ⟨Int.le_refl _, Int.le_refl _, Int.le_refl _, Nat.le_refl _, Int.le_refl _, Int.le_refl _, Int.le_refl _⟩ (fun q hq => h52 q (by simp only [List.length_cons]; omega)) (fun q hq => h49 q (by have : u ≤ l.2.2.2.1 := a1.2.2.2.2.2.2; simp only at hq; omega)) (fun kb' kg' ks' V' q1 q2 q3 q4 q5 q6 q7 q8 q9 => ?_)
      simp only at q2 q4 q6 q7 q8 q9
      exact hsn kb' kg' ks' V' q1 (by omega) q3 (by omega) q5 (by omega) (by omega) (by omega) (by omega)
/-- while terms are made same and tested -/
theorem cs_sn_ud {S S' : ty_S} {B F E : ai_A} (h1 : cp_ud S S' B F E) (h2 : ca_ud S S') {kb kg ks : Int} {V : mo_V} (k1 : 0 ≤ kb ∧ kb ≤ S.1 (13, 0) 7) (k2 : 0 ≤ kg ∧ kg ≤ S.1 (13, 0) 13) (k3 : 0 ≤ ks ∧ ks ≤ S.1 (39, 0) 7) (h : cs_sn (cs_arr S B F E) kb kg ks V) : cs_sn (cs_arr S' B F E) kb kg ks V := by
  unfold cs_sn cs_arr at h ⊢
  simp only at h ⊢
  rw [h1.2.2.1 kb k1.1 k1.2, h1.2.2.2 kg k2.1 k2.2, h2.2 ks k3.1 k3.2]
  exact h
