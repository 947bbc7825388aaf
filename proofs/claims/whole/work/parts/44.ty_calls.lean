/-! Calls, ends, throws, the library's own. -/
def ty_K (L : Nat) (xs : Nat → Int32) (d mi pc : Nat) (ls : ai_L) (r : List ai_V) (Q : ai_O → ty_S → Prop) (o : ai_O) (S' : ty_S) : Prop := match o with
  | .inl v => ty_W L xs d mi (pc + 3) ls (v.toList ++ r) S' Q
  | .inr x => (gt_hnd mi pc x = some none ∧ Q (.inr x) S') ∨ ∃ pc', gt_hnd mi pc x = some (some pc') ∧ ty_W L xs d mi pc' ls [.inr (.inr (some (1, S'.2.2.2.2.2.2.1 1)))] (ty_ex S') Q
def ty_oI (P : Int → ty_S → Prop) : ai_O → ty_S → Prop := fun o S' => ∃ z, o = .inl (some (.inl (ty_J z))) ∧ P z S'
def ty_oV (P : ty_S → Prop) : ai_O → ty_S → Prop := fun o S' => o = .inl none ∧ P S'
def ty_oR (P : Option ai_A → ty_S → Prop) : ai_O → ty_S → Prop := fun o S' => ∃ z, o = .inl (some (.inr (.inr z))) ∧ P z S'
def ty_oX (Q : ai_O → ty_S → Prop) (X : Nat → ty_S → Prop) : ai_O → ty_S → Prop := fun o S' => Q o S' ∨ ∃ x, o = .inr x ∧ X x S'
section TYC
variable {L : Nat} {xs : Nat → Int32} {d mi pc : Nat} {ls : ai_L} {st : List ai_V} {S : ty_S} {Q : ai_O → ty_S → Prop} {ks : List Nat} {a : ai_A} {r : List ai_V}
theorem ty_KI {S' : ty_S} {x : Int32} (k : ty_W L xs d mi (pc + 3) ls (.inl x :: r) S' Q) : ty_K L xs d mi pc ls r Q (.inl (some (.inl x))) S' := k
theorem ty_KR {S' : ty_S} {v : Option ai_A} (k : ty_W L xs d mi (pc + 3) ls (.inr (.inr v) :: r) S' Q) : ty_K L xs d mi pc ls r Q (.inl (some (.inr (.inr v)))) S' := k
theorem ty_KV {S' : ty_S} (k : ty_W L xs d mi (pc + 3) ls r S' Q) : ty_K L xs d mi pc ls r Q (.inl none) S' := k
theorem ty_KX {S' : ty_S} {x : Nat} (h : gt_hnd mi pc x = some none) (k : Q (.inr x) S') : ty_K L xs d mi pc ls r Q (.inr x) S' := .inl ⟨h, k⟩
theorem ty_KH {S' : ty_S} {x pc' : Nat} (h : gt_hnd mi pc x = some (some pc')) (k : ty_W L xs d mi pc' ls [.inr (.inr (some (1, S'.2.2.2.2.2.2.1 1)))] (ty_ex S') Q) : ty_K L xs d mi pc ls r Q (.inr x) S' := .inr ⟨pc', h, k⟩
theorem ty_exc (S : ty_S) : ai_exc (ty_H S) = ty_H (ty_ex S) := by
  have e1 : ai_upd (ty_H S).1 (1, S.2.2.2.2.2.2.1 1) (.inr (.inr 1)) = (ty_H (ty_ex S)).1 := by
    funext b
    show (if b = (1, S.2.2.2.2.2.2.1 1) then some (.inr (.inr 1)) else if b.2 < S.2.2.2.2.2.2.1 b.1 then some (ty_cell S b) else none) = if b.2 < (if b.1 = 1 then S.2.2.2.2.2.2.1 1 + 1 else S.2.2.2.2.2.2.1 b.1) then some (ty_cell (ty_ex S) b) else none
    have hc : ty_cell (ty_ex S) b = ty_cell S b := by
      unfold ty_cell
      split <;> first | rfl | (rw [ty_fl_eq (S := ty_ex S) (S' := S) _ 0 (fun j _ => rfl) (fun j _ => rfl)])
    rw [hc]
    by_cases e : b = (1, S.2.2.2.2.2.2.1 1)
    · rw [if_pos e, e]
      simp only [if_true]
      rw [if_pos (by omega)]
      rfl
    · rw [if_neg e]
      by_cases e2 : b.1 = 1
      · have e3 : b.2 ≠ S.2.2.2.2.2.2.1 1 := fun z => e (Prod.ext e2 z)
        simp only [e2, if_true]
        by_cases e4 : b.2 < S.2.2.2.2.2.2.1 1
        · rw [if_pos e4, if_pos (by omega)]
        · rw [if_neg e4, if_neg (by omega)]
      · simp only [e2, if_false]
  show (ai_upd (ty_H S).1 (1, S.2.2.2.2.2.2.1 1) (.inr (.inr 1)), _, _, _) = ((ty_H (ty_ex S)).1, _, _, _)
  rw [e1]
  rfl
theorem ty_call_ {ins : Instr} {m : Nat} {av : List ai_V} {Qc : ai_O → ty_S → Prop} (row : gt_P.1 mi pc = some (4, ins, m :: ks)) (ha : ai_args ins (m :: ks) st (ty_H S) = some (av, r)) (hc : ty_C L xs d m av S Qc) (k : ∀ o S', Qc o S' → ty_K L xs d mi pc ls r Q o S') : ty_W L xs d mi pc ls st S Q := by
  obtain ⟨N, o, S', hcall, hq⟩ := hc
  have hk := k o S' hq
  cases o with
  | inl v =>
    obtain ⟨N2, n, o2, S2, hr, hq2⟩ := hk
    refine ⟨max N N2, n + 1, o2, S2, ?_, hq2⟩
    have h1 : ai_call gt_P L xs (max N N2) d ((m :: ks).getD 0 0) av (ty_H S) = some (.inl v, ty_H S') := ai_call_fuel _ _ _ _ _ _ _ _ (Nat.le_refl _) (Nat.le_max_left _ _) hcall
    have h2 : ai_run gt_P L xs (ai_call gt_P L xs (max N N2) d) mi n (pc + 3) ls (v.toList ++ r) (ty_H S') = some (o2, ty_H S2) := ai_run_fuel (fun mi av h r z => ai_call_fuel _ _ _ _ _ _ _ _ (Nat.le_refl _) (Nat.le_max_right _ _) z) _ _ _ _ _ _ _ (Nat.le_refl _) hr
    simp only [ai_run, row, ha, h1]
    exact h2
  | inr x =>
    rcases hk with ⟨hn, hq2⟩ | ⟨pc', hn, hk⟩
    · refine ⟨N, 1, .inr x, S', ?_, hq2⟩
      have h1 : ai_call gt_P L xs N d ((m :: ks).getD 0 0) av (ty_H S) = some (.inr x, ty_H S') := hcall
      have h2 : gt_P.2.1 mi pc x = some none := hn
      simp only [ai_run, row, ha, h1, h2]
    · obtain ⟨N2, n, o2, S2, hr, hq2⟩ := hk
      refine ⟨max N N2, n + 1, o2, S2, ?_, hq2⟩
      have h1 : ai_call gt_P L xs (max N N2) d ((m :: ks).getD 0 0) av (ty_H S) = some (.inr x, ty_H S') := ai_call_fuel _ _ _ _ _ _ _ _ (Nat.le_refl _) (Nat.le_max_left _ _) hcall
      have h2 : gt_P.2.1 mi pc x = some (some pc') := hn
      have h3 : ai_run gt_P L xs (ai_call gt_P L xs (max N N2) d) mi n pc' ls [.inr (.inr (some (1, S'.2.2.2.2.2.2.1 1)))] (ty_H (ty_ex S')) = some (o2, ty_H S2) := ai_run_fuel (fun mi av h r z => ai_call_fuel _ _ _ _ _ _ _ _ (Nat.le_refl _) (Nat.le_max_right _ _) z) _ _ _ _ _ _ _ (Nat.le_refl _) hr
      simp only [ai_run, row, ha, h1, h2]
      rw [if_pos ty_none, ty_exc]
      exact h3
theorem ty_args0 {m n c : Nat} {av : List ai_V} (hst : av.reverse ++ r = st) (hn : av.length = n) : ([m, n, c].getD 1 0 ≤ st.length ∧ ((st.take ([m, n, c].getD 1 0)).reverse = av ∧ st.drop ([m, n, c].getD 1 0) = r)) := by
  subst hst
  subst hn
  refine ⟨?_, ?_, ?_⟩
  · show av.length ≤ _
    simp
  · show ((av.reverse ++ r).take av.length).reverse = av
    rw [List.take_append_of_le_length (by simp), List.take_of_length_le (by simp), List.reverse_reverse]
  · show (av.reverse ++ r).drop av.length = r
    rw [show av.length = av.reverse.length by simp, List.drop_left]
theorem ty_calls {idx m n c : Nat} {av : List ai_V} {Qc : ai_O → ty_S → Prop} (row : gt_P.1 mi pc = some (4, .invokestatic idx, [m, n, c])) (hst : av.reverse ++ r = st) (hn : av.length = n) (hw : ai_wt r ≤ 8) (hc : ty_C L xs d m av S Qc) (k : ∀ o S', Qc o S' → ty_K L xs d mi pc ls r Q o S') : ty_W L xs d mi pc ls st S Q := by
  obtain ⟨h1, h2, h3⟩ := ty_args0 (m := m) (c := c) hst hn
  refine ty_call_ row ?_ hc k
  unfold ai_args
  rw [if_pos ⟨h1, by rw [h3]; exact hw⟩]
  simp only [h2, h3]
theorem ty_callp {idx m n c : Nat} {vs : List ai_V} {Qc : ai_O → ty_S → Prop} (row : gt_P.1 mi pc = some (4, .invokespecial idx, [m, n, c])) (hst : (.inr (.inr (some a)) :: vs).reverse ++ r = st) (hn : vs.length + 1 = n) (hw : ai_wt r ≤ 8) (hc : ty_C L xs d m (.inr (.inr (some a)) :: vs) S Qc) (k : ∀ o S', Qc o S' → ty_K L xs d mi pc ls r Q o S') : ty_W L xs d mi pc ls st S Q := by
  obtain ⟨h1, h2, h3⟩ := ty_args0 (m := m) (c := c) hst hn
  refine ty_call_ row ?_ hc k
  unfold ai_args
  rw [if_pos ⟨h1, by rw [h3]; exact hw⟩]
  simp only [h2, h3]
theorem ty_callv {idx m n c : Nat} {vs : List ai_V} {Qc : ai_O → ty_S → Prop} (row : gt_P.1 mi pc = some (4, .invokevirtual idx, [m, n, c])) (hst : (.inr (.inr (some a)) :: vs).reverse ++ r = st) (hn : vs.length + 1 = n) (hw : ai_wt r ≤ 8) (hs : ty_sk a.1 = (1, c)) (hp : a.2 < S.2.2.2.2.2.2.1 a.1) (hc : ty_C L xs d m (.inr (.inr (some a)) :: vs) S Qc) (k : ∀ o S', Qc o S' → ty_K L xs d mi pc ls r Q o S') : ty_W L xs d mi pc ls st S Q := by
  obtain ⟨h1, h2, h3⟩ := ty_args0 (m := m) (c := c) hst hn
  refine ty_call_ row ?_ hc k
  have h4 := ty_H_at (S := S) hp
  rw [ty_cell_o hs] at h4
  unfold ai_args
  rw [if_pos ⟨h1, by rw [h3]; exact hw⟩]
  simp only [h2, h3, h4]
  exact if_pos rfl
/-! ends -/
theorem ty_ret {ins : Instr} {v : Option ai_V} (row : gt_P.1 mi pc = some (5, ins, ks)) (hr : ai_ret ins (gt_P.2.2.1 mi).2 st = some v) (q : Q (.inl v) S) : ty_W L xs d mi pc ls st S Q :=
  ⟨0, 1, .inl v, S, by simp only [ai_run, row, hr], q⟩
theorem ty_ret_v (row : gt_P.1 mi pc = some (5, .return_, ks)) (hr : (gt_P.2.2.1 mi).2 = none) (q : Q (.inl none) S) : ty_W L xs d mi pc ls [] S Q := ty_ret row (by rw [hr]; rfl) q
theorem ty_ret_i {ty : FieldType} {x : Int32} (row : gt_P.1 mi pc = some (5, .ireturn, ks)) (hr : (gt_P.2.2.1 mi).2 = some ty) (hf : ai_fit ty (.inl x) = true) (q : Q (.inl (some (.inl x))) S) : ty_W L xs d mi pc ls [.inl x] S Q := ty_ret row (by rw [hr]; simp only [ai_ret]; rw [if_pos hf]) q
theorem ty_ret_a {ty : FieldType} {v : Option ai_A} (row : gt_P.1 mi pc = some (5, .areturn, ks)) (hr : (gt_P.2.2.1 mi).2 = some ty) (hf : ai_fit ty (.inr (.inr v)) = true) (q : Q (.inl (some (.inr (.inr v)))) S) : ty_W L xs d mi pc ls [.inr (.inr v)] S Q := by
  refine ty_ret row ?_ q
  rw [hr]
  cases ty <;> first | rfl | (cases hf; done)
theorem ty_throw {ins : Instr} {x : Nat} (row : gt_P.1 mi pc = some (6, ins, [x])) (hw : ai_wt st ≤ 8) (q : Q (.inr x) (ty_th S)) : ty_W L xs d mi pc ls st S Q := by
  refine ⟨0, 1, .inr x, ty_th S, ?_, q⟩
  have hc : ∀ b, ty_cell (ty_th S) b = ty_cell S b := by
    intro b
    unfold ty_cell
    split <;> first | rfl | (rw [ty_fl_eq (S := ty_th S) (S' := S) _ 0 (fun j _ => rfl) (fun j _ => rfl)])
  simp only [ai_run, row]
  rw [if_pos hw]
  have e : (ty_H (ty_th S)).1 = (ty_H S).1 := by
    funext b
    show (if b.2 < S.2.2.2.2.2.2.1 b.1 then some (ty_cell (ty_th S) b) else none) = _
    rw [hc]
    rfl
  show some (Sum.inr x, ((ty_H S).1, S.2.2.2.2.2.2.1, S.2.2.2.2.2.2.2.1 + 1, S.2.2.2.2.2.2.2.2 + 6)) = some (Sum.inr x, ((ty_H (ty_th S)).1, S.2.2.2.2.2.2.1, S.2.2.2.2.2.2.2.1 + 1, S.2.2.2.2.2.2.2.2 + 6))
  rw [e]
theorem ty_objinit {ins : Instr} (row : gt_P.1 mi pc = some (7, ins, ks)) (hw : ai_wt st ≤ 8) (k : ty_W L xs d mi (pc + 3) ls st S Q) : ty_W L xs d mi pc ls (.inr (.inr (some a)) :: st) S Q :=
  ty_step (fun call n => by simp only [ai_run, row]; rw [if_pos hw]) k
theorem ty_max {ins : Instr} {x y : Int} (row : gt_P.1 mi pc = some (8, ins, ks)) (hx : -2147483648 ≤ x ∧ x ≤ 2147483647) (hy : -2147483648 ≤ y ∧ y ≤ 2147483647) (hw : ai_wt st ≤ 8) (k : ∀ z, (if x < y then y else x) = z → ty_W L xs d mi (pc + 3) ls (.inl (ty_J z) :: st) S Q) : ty_W L xs d mi pc ls (.inl (ty_J y) :: .inl (ty_J x) :: st) S Q :=
  ty_step (fun call n => by
    simp only [ai_run, row]
    rw [if_pos hw]
    congr 2
    by_cases h : x < y
    · rw [if_pos ((ty_J_lt hx hy).mpr h), if_pos h]
    · rw [if_neg (fun z => h ((ty_J_lt hx hy).mp z)), if_neg h]) (k _ rfl)
theorem ty_min {ins : Instr} {x y : Int} (row : gt_P.1 mi pc = some (9, ins, ks)) (hx : -2147483648 ≤ x ∧ x ≤ 2147483647) (hy : -2147483648 ≤ y ∧ y ≤ 2147483647) (hw : ai_wt st ≤ 8) (k : ∀ z, (if y < x then y else x) = z → ty_W L xs d mi (pc + 3) ls (.inl (ty_J z) :: st) S Q) : ty_W L xs d mi pc ls (.inl (ty_J y) :: .inl (ty_J x) :: st) S Q :=
  ty_step (fun call n => by
    simp only [ai_run, row]
    rw [if_pos hw]
    congr 2
    by_cases h : y < x
    · rw [if_pos ((ty_J_lt hy hx).mpr h), if_pos h]
    · rw [if_neg (fun z => h ((ty_J_lt hy hx).mp z)), if_neg h]) (k _ rfl)
/-! the library's own -/
theorem ty_ext {ins : Instr} {st' : List ai_V} {S' : ty_S} {pc' : Nat} (row : gt_P.1 mi pc = some (10, ins, ks)) (hp : ai_ext (fun t => gt_tyL.getD t .float) gt_asg pc ks st (ty_H S) = some (pc', st', ty_H S')) (k : ty_W L xs d mi pc' ls st' S' Q) : ty_W L xs d mi pc ls st S Q :=
  ty_step (fun call n => by
    simp only [ai_run, row]
    rw [show ai_ext (fun t => gt_P.2.2.2.2.1.getD t .float) gt_P.2.2.2.2.2.2 pc ks st (ty_H S) = some (pc', st', ty_H S') from hp]) k
theorem ty_empty {ins : Instr} (row : gt_P.1 mi pc = some (10, ins, [0])) (hp : 1 < S.2.2.2.2.2.2.1 0) (k : ty_W L xs d mi (pc + 3) ls (.inr (.inr (some (0, 1))) :: st) S Q) : ty_W L xs d mi pc ls st S Q := by
  refine ty_ext row ?_ k
  have h1 : (ty_H S).1 (0, 1) = some (.inr (.inr 2)) := ty_H_at (S := S) (a := (0, 1)) hp
  simp [ai_ext, h1]
theorem ty_ldcM {ins : Instr} (row : gt_P.1 mi pc = some (10, ins, [1])) (hp : 2 < S.2.2.2.2.2.2.1 0) (k : ty_W L xs d mi (pc + 2) ls (.inr (.inr (some (0, 2))) :: st) S Q) : ty_W L xs d mi pc ls st S Q := by
  refine ty_ext row ?_ k
  have h1 : (ty_H S).1 (0, 2) = some (.inr (.inr 3)) := ty_H_at (S := S) (a := (0, 2)) hp
  simp [ai_ext, h1]
theorem ty_getC {ins : Instr} {t : Nat} (row : gt_P.1 mi pc = some (10, ins, [2])) (h0 : 2 < S.2.2.2.2.2.2.1 0) (hs : ty_sk a.1 = (4, t)) (ht : gt_tyL.getD t .float = .object "java/lang/Object") (hp : a.2 < S.2.2.2.2.2.2.1 a.1) (hw : ai_wt st ≤ 8) (k : ty_W L xs d mi (pc + 3) ls (.inr (.inr (some (0, 2))) :: st) S Q) : ty_W L xs d mi pc ls (.inr (.inr (some a)) :: st) S Q := by
  refine ty_ext row ?_ k
  have h1 : (ty_H S).1 (0, 2) = some (.inr (.inr 3)) := ty_H_at (S := S) (a := (0, 2)) h0
  have h2 := ty_H_at (S := S) hp
  rw [ty_cell_q hs] at h2
  simp only [ai_ext, List.getD_cons_zero, h1, h2]
  rw [if_pos ⟨ht, hw⟩]
def ty_known (S : ty_S) (a : ai_A) : Prop := a.2 < S.2.2.2.2.2.2.1 a.1 ∧ ((ty_sk a.1).1 = 1 ∨ (ty_sk a.1).1 = 2 ∨ (ty_sk a.1).1 = 4)
theorem ty_known_solid {S : ty_S} (h : ty_known S a) : ∃ z, (ty_H S).1 a = some z ∧ ai_solid z = true := by
  refine ⟨_, ty_H_at h.1, ?_⟩
  obtain ⟨-, h⟩ := h
  cases e : ty_sk a.1 with
  | mk p q =>
    rw [e] at h
    rcases h with h | h | h
    · have h : p = 1 := h
      subst h; rw [ty_cell_o e]; rfl
    · have h : p = 2 := h
      subst h; rw [ty_cell_i e]; rfl
    · have h : p = 4 := h
      subst h; rw [ty_cell_q e]; rfl
theorem ty_same {S : ty_S} {a b : ai_A} (hp : 1 < S.2.2.2.2.2.2.1 0) (ha : ty_known S a ∨ a = (0, 1)) (hb : ty_known S b ∨ b = (0, 1)) : ai_same (ty_H S) (some a) (some b) = some (decide (a = b)) := by
  have h1 : (ty_H S).1 (0, 1) = some (.inr (.inr 2)) := ty_H_at (S := S) (a := (0, 1)) hp
  by_cases e : a = b
  · simp [ai_same, e]
  · rcases ha with ha | rfl
    · obtain ⟨z, hz, hz2⟩ := ty_known_solid ha
      rcases hb with hb | rfl
      · obtain ⟨w, hw, hw2⟩ := ty_known_solid hb
        simp [ai_same, e, hz, hw, hz2, hw2]
      · simp [ai_same, e, hz, h1, hz2, ai_is2]
    · rcases hb with hb | rfl
      · obtain ⟨w, hw, hw2⟩ := ty_known_solid hb
        simp [ai_same, e, hw, h1, hw2, ai_is2]
      · exact absurd rfl e
theorem ty_acmp_eq {ins : Instr} {t : Nat} {a b : ai_A} (row : gt_P.1 mi pc = some (10, ins, [3, t])) (hp : 1 < S.2.2.2.2.2.2.1 0) (ha : ty_known S a ∨ a = (0, 1)) (hb : ty_known S b ∨ b = (0, 1)) (k1 : a = b → ty_W L xs d mi t ls st S Q) (k2 : a ≠ b → ty_W L xs d mi (pc + 3) ls st S Q) : ty_W L xs d mi pc ls (.inr (.inr (some b)) :: .inr (.inr (some a)) :: st) S Q := by
  have hs := ty_same hp ha hb
  by_cases e : a = b
  · refine ty_ext row ?_ (k1 e)
    subst e
    simp [ai_ext, hs]
  · refine ty_ext row ?_ (k2 e)
    simp [ai_ext, hs, e]
theorem ty_acmp_ne {ins : Instr} {t : Nat} {a b : ai_A} (row : gt_P.1 mi pc = some (10, ins, [4, t])) (hp : 1 < S.2.2.2.2.2.2.1 0) (ha : ty_known S a ∨ a = (0, 1)) (hb : ty_known S b ∨ b = (0, 1)) (k1 : a ≠ b → ty_W L xs d mi t ls st S Q) (k2 : a = b → ty_W L xs d mi (pc + 3) ls st S Q) : ty_W L xs d mi pc ls (.inr (.inr (some b)) :: .inr (.inr (some a)) :: st) S Q := by
  have hs := ty_same hp ha hb
  by_cases e : a = b
  · refine ty_ext row ?_ (k2 e)
    subst e
    simp [ai_ext, hs]
  · refine ty_ext row ?_ (k1 e)
    simp [ai_ext, hs, e]
theorem ty_copyi {ins : Instr} {t0 t1 n0 n1 : Nat} {sp dp n : Int} {b : ai_A} (row : gt_P.1 mi pc = some (10, ins, [5])) (hs : ty_sk a.1 = (2, t0)) (ht : gt_tyL.getD t0 .float = .int) (hp : a.2 < S.2.2.2.2.2.2.1 a.1) (hn : S.2.2.2.2.2.1 a = n0) (hs' : ty_sk b.1 = (2, t1)) (ht' : gt_tyL.getD t1 .float = .int) (hp' : b.2 < S.2.2.2.2.2.2.1 b.1) (hn' : S.2.2.2.2.2.1 b = n1)
    (h1 : 0 ≤ sp ∧ 0 ≤ dp ∧ 0 ≤ n ∧ sp + n ≤ n0 ∧ dp + n ≤ n1 ∧ sp ≤ 2147483647 ∧ dp ≤ 2147483647 ∧ n ≤ 2147483647) (hw : ai_wt st ≤ 8) (k : ty_W L xs d mi (pc + 3) ls st (ty_mA S b (fun j => if dp ≤ j ∧ j < dp + n then S.2.2.1 a (sp + (j - dp)) else S.2.2.1 b j)) Q) : ty_W L xs d mi pc ls (.inl (ty_J n) :: .inl (ty_J dp) :: .inr (.inr (some b)) :: .inl (ty_J sp) :: .inr (.inr (some a)) :: st) S Q := by
  refine ty_ext row ?_ k
  have e1 := ty_H_at (S := S) hp
  rw [ty_cell_i hs] at e1
  have e2 := ty_H_at (S := S) hp'
  rw [ty_cell_i hs'] at e2
  simp only [ai_ext, List.getD_cons_zero, e1, e2]
  have m1 := ty_J_nat (x := sp) (by omega)
  have m2 := ty_J_nat (x := dp) (by omega)
  have m3 := ty_J_nat (x := n) (by omega)
  rw [if_pos ⟨ht, ht', ty_J_nneg (by omega), ty_J_nneg (by omega), ty_J_nneg (by omega), by rw [m1, m3, hn]; omega, by rw [m2, m3, hn']; omega, hw⟩, m1, m2, m3]
  congr 3
  refine ty_put rfl hp' ?_ (fun c hc => ty_cell_mA hc)
  rw [ty_cell_i hs']
  congr 5
  funext j
  simp only [ty_mA, va_cpy, if_true]
  by_cases e : dp.toNat ≤ j ∧ j < dp.toNat + n.toNat
  · have ej : sp + ((j : Int) - dp) = ((sp.toNat + (j - dp.toNat) : Nat) : Int) := by omega
    rw [if_pos e, if_pos (by omega), ej]
  · rw [if_neg e, if_neg (by omega)]
theorem ty_copyq {ins : Instr} {t0 t1 n0 n1 cj : Nat} {sp dp n : Int} {b : ai_A} (row : gt_P.1 mi pc = some (10, ins, [6])) (hs : ty_sk a.1 = (4, t0)) (ht : ai_obj (gt_tyL.getD t0 .float) = true) (hp : a.2 < S.2.2.2.2.2.2.1 a.1) (hn : S.2.2.2.2.2.1 a = n0) (hs' : ty_sk b.1 = (4, t1)) (hp' : b.2 < S.2.2.2.2.2.2.1 b.1) (hn' : S.2.2.2.2.2.1 b = n1)
    (h1 : 0 ≤ sp ∧ 0 ≤ dp ∧ 0 ≤ n ∧ sp + n ≤ n0 ∧ dp + n ≤ n1 ∧ sp ≤ 2147483647 ∧ dp ≤ 2147483647 ∧ n ≤ 2147483647) (hg : gt_asg t1 cj = true) (hq : ∀ (i : Int) (c : ai_A), 0 ≤ i → i < n → S.2.2.2.1 a (sp + i) = some c → ty_sk c.1 = (1, cj) ∧ c.2 < S.2.2.2.2.2.2.1 c.1) (hw : ai_wt st ≤ 8) (k : ty_W L xs d mi (pc + 3) ls st (ty_mQ S b (fun j => if dp ≤ j ∧ j < dp + n then S.2.2.2.1 a (sp + (j - dp)) else S.2.2.2.1 b j)) Q) : ty_W L xs d mi pc ls (.inl (ty_J n) :: .inl (ty_J dp) :: .inr (.inr (some b)) :: .inl (ty_J sp) :: .inr (.inr (some a)) :: st) S Q := by
  refine ty_ext row ?_ k
  have e1 := ty_H_at (S := S) hp
  rw [ty_cell_q hs] at e1
  have e2 := ty_H_at (S := S) hp'
  rw [ty_cell_q hs'] at e2
  simp only [ai_ext, List.getD_cons_zero, e1, e2]
  have m1 := ty_J_nat (x := sp) (by omega)
  have m2 := ty_J_nat (x := dp) (by omega)
  have m3 := ty_J_nat (x := n) (by omega)
  have hcq : ai_cq gt_asg (ty_H S) t1 (fun j : Nat => S.2.2.2.1 a j) (ty_J sp).toNatClampNeg (ty_J n).toNatClampNeg := by
    refine ⟨cj, hg, fun i hi c hc => ?_⟩
    have hi2 : i < n.toNat := by rw [← m3]; exact hi
    have hc2 : S.2.2.2.1 a (sp + (i : Int)) = some c := by
      rw [show sp + (i : Int) = ((sp.toNat + i : Nat) : Int) by omega, ← m1]
      exact hc
    obtain ⟨q1, q2⟩ := hq i c (by omega) (by omega) hc2
    have e3 := ty_H_at (S := S) q2
    rw [ty_cell_o q1] at e3
    exact ⟨_, e3⟩
  rw [if_pos ⟨ht, ty_J_nneg (by omega), ty_J_nneg (by omega), ty_J_nneg (by omega), by rw [m1, m3, hn]; omega, by rw [m2, m3, hn']; omega, hw, hcq⟩, m1, m2, m3]
  congr 3
  refine ty_put rfl hp' ?_ (fun c hc => ty_cell_mQ hc)
  rw [ty_cell_q hs']
  have e9 : (fun j : Nat => (ty_mQ S b (fun j => if dp ≤ j ∧ j < dp + n then S.2.2.2.1 a (sp + (j - dp)) else S.2.2.2.1 b j)).2.2.2.1 b j) = va_cpy (fun j : Nat => S.2.2.2.1 a j) (fun j : Nat => S.2.2.2.1 b j) sp.toNat dp.toNat n.toNat := by
    funext j
    simp only [ty_mQ, va_cpy, if_true]
    by_cases e : dp.toNat ≤ j ∧ j < dp.toNat + n.toNat
    · have ej : sp + ((j : Int) - dp) = ((sp.toNat + (j - dp.toNat) : Nat) : Int) := by omega
      rw [if_pos e, if_pos (by omega), ej]
    · rw [if_neg e, if_neg (by omega)]
  rw [e9]
  rfl
end TYC
