/-! The whole program keeps what it must. -/
def gt_mo (mi : Nat) (v : MethodName × ByteArray × List (Nat × Nat × Nat × Nat)) : Prop := plainFor v.1 = true ∧ Cond.initialized v.1.cls ∈ gt_Ts ∧ (v.1.cls ≠ "java/lang/invoke/MethodHandle" ∧ v.1.cls ≠ "java/lang/invoke/VarHandle") ∧ ai_cw gt_Ts v.1 v.2.1 (gt_P.2.2.1 mi).1 (gt_P.2.2.1 mi).2 v.2.2 ∧
  (v.1.name = "<init>" → v.2.2 = [] ∧ (gt_P.2.2.1 mi).2 = none ∧ Cond.code v.1 v.2.1 (gt_P.2.2.1 mi).1 none ∈ gt_Ts) ∧ (gt_P.2.2.1 mi).1 ≤ 45 ∧ ∀ pc r, gt_P.1 mi pc = some r → ai_rok gt_Ts gt_cl gt_P gt_M gt_ex mi v.1 v.2.1 v.2.2 pc r
theorem gt_hf_mem {mi pc x pc' : Nat} : ∀ {l : List (Nat × Nat × Nat × Nat)}, gt_hf l mi pc x = some (some pc') → (mi, pc, x, pc') ∈ l
  | [], h => by cases h
  | q :: t, h => by
    unfold gt_hf at h
    split at h
    · rename_i hb
      simp only [Bool.and_eq_true, Nat.beq_eq] at hb
      obtain ⟨q1, q2, q3, q4⟩ := q
      obtain ⟨rfl, rfl, rfl⟩ := hb
      cases h
      exact List.mem_cons_self
    · exact List.mem_cons_of_mem _ (gt_hf_mem h)
theorem gt_hf_none : ∀ (l : List (Nat × Nat × Nat × Nat)) (mi pc x : Nat), gt_hf l mi pc x ≠ some none
  | [], _, _, _ => by simp [gt_hf]
  | q :: t, mi, pc, x => by
    unfold gt_hf
    split
    · simp
    · exact gt_hf_none t mi pc x
theorem gt_hnil {mi pc : Nat} {own : String} (h : gt_wr.contains mi = false) : ai_hnd gt_Ts own [] gt_ex (gt_P.2.1 mi pc) pc := by
  refine ⟨fun x _ q hq => (by cases hq), fun x pc' hx => ?_⟩
  have hx : gt_hnd mi pc x = some (some pc') := hx
  unfold gt_hnd at hx
  rw [h] at hx
  cases hx
section GTM
variable {mi o : Nat} {y : MethodName} {cc : ByteArray} {t : List (Nat × ai_I)}
theorem gt_mo_init (h1 : plainFor y = true) (h2 : Cond.initialized y.cls ∈ gt_Ts) (h3 : y.cls ≠ "java/lang/invoke/MethodHandle" ∧ y.cls ≠ "java/lang/invoke/VarHandle") (h4 : Cond.code y cc (gt_P.2.2.1 mi).1 none ∈ gt_Ts) (h5 : (gt_P.2.2.1 mi).2 = none ∧ (gt_P.2.2.1 mi).1 ≤ 45 ∧ gt_wr.contains mi = false ∧ y.name = "<init>") (_ : (0 : Nat) = 0) (ho : gt_own o = y.cls) (ht : ∀ pc, gt_P.1 mi pc = ai_find2 t pc) (hr : t.all (ai_chk gt_Fk gt_C6 gt_Wr o true mi cc []) = true) : gt_mo mi (y, cc, []) :=
  ⟨h1, h2, h3, .inl ⟨rfl, by rw [h5.1]; exact h4⟩, fun _ => ⟨rfl, h5.1, h4⟩, h5.2.1, ai_rows_ok gt_FH gt_FO (fun _ => h5.2.2.2) ho (fun pc _ => gt_hnil h5.2.2.1) ht hr⟩
theorem gt_mo_plain (h1 : plainFor y = true) (h2 : Cond.initialized y.cls ∈ gt_Ts) (h3 : y.cls ≠ "java/lang/invoke/MethodHandle" ∧ y.cls ≠ "java/lang/invoke/VarHandle") (h4 : Cond.code y cc (gt_P.2.2.1 mi).1 (gt_P.2.2.1 mi).2 ∈ gt_Ts) (h5 : (gt_P.2.2.1 mi).1 ≤ 45 ∧ gt_wr.contains mi = false) (h6 : y.name ≠ "<init>") (ho : gt_own o = y.cls) (ht : ∀ pc, gt_P.1 mi pc = ai_find2 t pc) (hr : t.all (ai_chk gt_Fk gt_C6 gt_Wr o false mi cc []) = true) : gt_mo mi (y, cc, []) :=
  ⟨h1, h2, h3, .inl ⟨rfl, h4⟩, fun z => absurd z h6, h5.1, ai_rows_ok gt_FH gt_FO (fun z => by cases z) ho (fun pc _ => gt_hnil h5.2) ht hr⟩
theorem gt_mo_with {hh : List (Nat × Nat × Nat × Nat)} (h1 : plainFor y = true) (h2 : Cond.initialized y.cls ∈ gt_Ts) (h3 : y.cls ≠ "java/lang/invoke/MethodHandle" ∧ y.cls ≠ "java/lang/invoke/VarHandle") (h4 : Cond.codeWith y cc (gt_P.2.2.1 mi).1 (gt_P.2.2.1 mi).2 hh ∈ gt_Ts) (h5 : (gt_P.2.2.1 mi).1 ≤ 45 ∧ y.name ≠ "<init>") (h6 : ∀ pc, gt_Wr mi pc = true → ai_hnd gt_Ts y.cls hh gt_ex (gt_P.2.1 mi pc) pc) (ho : gt_own o = y.cls) (ht : ∀ pc, gt_P.1 mi pc = ai_find2 t pc) (hr : t.all (ai_chk gt_Fk gt_C6 gt_Wr o false mi cc hh) = true) : gt_mo mi (y, cc, hh) :=
  ⟨h1, h2, h3, .inr h4, fun z => absurd z h5.2, h5.1, ai_rows_ok gt_FH gt_FO (fun z => by cases z) ho h6 ht hr⟩
end GTM

theorem gt_h15 : ∀ pc, gt_Wr 15 pc = true → ai_hnd gt_Ts "GoalDeskLaw" [(0, 9, 12, 13), (0, 9, 16, 15)] gt_ex (gt_P.2.1 15 pc) pc := by
  intro pc hw
  have hpc : pc = 4 := by
    simp [gt_Wr, gt_wr, gt_hl] at hw
    omega
  subst hpc
  refine ⟨fun x hx => ?_, fun x pc' hx => ?_⟩
  · have hx : gt_hf gt_hl 15 4 x = some none := hx
    exact absurd hx (gt_hf_none _ _ _ _)
  · have hx : gt_hf gt_hl 15 4 x = some (some pc') := hx
    have hm := gt_hf_mem hx
    have : (x = 0 ∧ pc' = 12) ∨ (x = 1 ∧ pc' = 16) := by simpa [gt_hl] using hm
    rcases this with ⟨rfl, rfl⟩ | ⟨rfl, rfl⟩
    · refine ⟨[], (0, 9, 12, 13), [(0, 9, 16, 15)], rfl, rfl, by decide +kernel, ⟨by decide, "java/lang/IllegalArgumentException", gt_w_in (i := 508) (by decide +kernel), .inl ⟨rfl, gt_w_in (i := 516) (by decide +kernel)⟩⟩, fun z hz => .inr ?_⟩
      simp at hz
    · refine ⟨[(0, 9, 12, 13)], (0, 9, 16, 15), [], rfl, rfl, by decide +kernel, ⟨by decide, "java/lang/IllegalStateException", gt_w_in (i := 509) (by decide +kernel), .inl ⟨rfl, gt_w_in (i := 580) (by decide +kernel)⟩⟩, fun z hz => .inr ?_⟩
      have hz : z = (0, 9, 12, 13) := by simpa using hz
      rcases hz with rfl
      · exact ⟨by decide, "java/lang/IllegalArgumentException", gt_w_in (i := 508) (by decide +kernel), .inr ⟨rfl, gt_X_in (by decide +kernel)⟩⟩
theorem gt_h17 : ∀ pc, gt_Wr 17 pc = true → ai_hnd gt_Ts "GoalDeskLaw" [(0, 8, 11, 13), (0, 8, 14, 15)] gt_ex (gt_P.2.1 17 pc) pc := by
  intro pc hw
  have hpc : pc = 3 := by
    simp [gt_Wr, gt_wr, gt_hl] at hw
    omega
  subst hpc
  refine ⟨fun x hx => ?_, fun x pc' hx => ?_⟩
  · have hx : gt_hf gt_hl 17 3 x = some none := hx
    exact absurd hx (gt_hf_none _ _ _ _)
  · have hx : gt_hf gt_hl 17 3 x = some (some pc') := hx
    have hm := gt_hf_mem hx
    have : (x = 0 ∧ pc' = 11) ∨ (x = 1 ∧ pc' = 14) := by simpa [gt_hl] using hm
    rcases this with ⟨rfl, rfl⟩ | ⟨rfl, rfl⟩
    · refine ⟨[], (0, 8, 11, 13), [(0, 8, 14, 15)], rfl, rfl, by decide +kernel, ⟨by decide, "java/lang/IllegalArgumentException", gt_w_in (i := 508) (by decide +kernel), .inl ⟨rfl, gt_w_in (i := 516) (by decide +kernel)⟩⟩, fun z hz => .inr ?_⟩
      simp at hz
    · refine ⟨[(0, 8, 11, 13)], (0, 8, 14, 15), [], rfl, rfl, by decide +kernel, ⟨by decide, "java/lang/IllegalStateException", gt_w_in (i := 509) (by decide +kernel), .inl ⟨rfl, gt_w_in (i := 580) (by decide +kernel)⟩⟩, fun z hz => .inr ?_⟩
      have hz : z = (0, 8, 11, 13) := by simpa using hz
      rcases hz with rfl
      · exact ⟨by decide, "java/lang/IllegalArgumentException", gt_w_in (i := 508) (by decide +kernel), .inr ⟨rfl, gt_X_in (by decide +kernel)⟩⟩
theorem gt_h33 : ∀ pc, gt_Wr 33 pc = true → ai_hnd gt_Ts "GoalDeskLaw" [(0, 5, 8, 13)] gt_ex (gt_P.2.1 33 pc) pc := by
  intro pc hw
  have hpc : pc = 2 := by
    simp [gt_Wr, gt_wr, gt_hl] at hw
    omega
  subst hpc
  refine ⟨fun x hx => ?_, fun x pc' hx => ?_⟩
  · have hx : gt_hf gt_hl 33 2 x = some none := hx
    exact absurd hx (gt_hf_none _ _ _ _)
  · have hx : gt_hf gt_hl 33 2 x = some (some pc') := hx
    have hm := gt_hf_mem hx
    have : (x = 0 ∧ pc' = 8) := by simpa [gt_hl] using hm
    rcases this with ⟨rfl, rfl⟩
    · refine ⟨[], (0, 5, 8, 13), [], rfl, rfl, by decide +kernel, ⟨by decide, "java/lang/IllegalArgumentException", gt_w_in (i := 508) (by decide +kernel), .inl ⟨rfl, gt_w_in (i := 516) (by decide +kernel)⟩⟩, fun z hz => .inr ?_⟩
      simp at hz
theorem gt_h35 : ∀ pc, gt_Wr 35 pc = true → ai_hnd gt_Ts "GoalDeskLaw" [(0, 8, 11, 13), (0, 8, 14, 28), (0, 8, 17, 15), (0, 8, 20, 30)] gt_ex (gt_P.2.1 35 pc) pc := by
  intro pc hw
  have hpc : pc = 3 := by
    simp [gt_Wr, gt_wr, gt_hl] at hw
    omega
  subst hpc
  refine ⟨fun x hx => ?_, fun x pc' hx => ?_⟩
  · have hx : gt_hf gt_hl 35 3 x = some none := hx
    exact absurd hx (gt_hf_none _ _ _ _)
  · have hx : gt_hf gt_hl 35 3 x = some (some pc') := hx
    have hm := gt_hf_mem hx
    have : (x = 0 ∧ pc' = 11) ∨ (x = 2 ∧ pc' = 14) ∨ (x = 1 ∧ pc' = 17) ∨ (x = 3 ∧ pc' = 20) := by simpa [gt_hl] using hm
    rcases this with ⟨rfl, rfl⟩ | ⟨rfl, rfl⟩ | ⟨rfl, rfl⟩ | ⟨rfl, rfl⟩
    · refine ⟨[], (0, 8, 11, 13), [(0, 8, 14, 28), (0, 8, 17, 15), (0, 8, 20, 30)], rfl, rfl, by decide +kernel, ⟨by decide, "java/lang/IllegalArgumentException", gt_w_in (i := 508) (by decide +kernel), .inl ⟨rfl, gt_w_in (i := 516) (by decide +kernel)⟩⟩, fun z hz => .inr ?_⟩
      simp at hz
    · refine ⟨[(0, 8, 11, 13)], (0, 8, 14, 28), [(0, 8, 17, 15), (0, 8, 20, 30)], rfl, rfl, by decide +kernel, ⟨by decide, "java/util/NoSuchElementException", gt_w_in (i := 662) (by decide +kernel), .inl ⟨rfl, gt_w_in (i := 1013) (by decide +kernel)⟩⟩, fun z hz => .inr ?_⟩
      have hz : z = (0, 8, 11, 13) := by simpa using hz
      rcases hz with rfl
      · exact ⟨by decide, "java/lang/IllegalArgumentException", gt_w_in (i := 508) (by decide +kernel), .inr ⟨rfl, gt_X_in (by decide +kernel)⟩⟩
    · refine ⟨[(0, 8, 11, 13), (0, 8, 14, 28)], (0, 8, 17, 15), [(0, 8, 20, 30)], rfl, rfl, by decide +kernel, ⟨by decide, "java/lang/IllegalStateException", gt_w_in (i := 509) (by decide +kernel), .inl ⟨rfl, gt_w_in (i := 580) (by decide +kernel)⟩⟩, fun z hz => .inr ?_⟩
      have hz : z = (0, 8, 11, 13) ∨ z = (0, 8, 14, 28) := by simpa using hz
      rcases hz with rfl | rfl
      · exact ⟨by decide, "java/lang/IllegalArgumentException", gt_w_in (i := 508) (by decide +kernel), .inr ⟨rfl, gt_X_in (by decide +kernel)⟩⟩
      · exact ⟨by decide, "java/util/NoSuchElementException", gt_w_in (i := 662) (by decide +kernel), .inr ⟨rfl, gt_X_in (by decide +kernel)⟩⟩
    · refine ⟨[(0, 8, 11, 13), (0, 8, 14, 28), (0, 8, 17, 15)], (0, 8, 20, 30), [], rfl, rfl, by decide +kernel, ⟨by decide, "java/lang/UnsupportedOperationException", gt_w_in (i := 663) (by decide +kernel), .inl ⟨rfl, gt_w_in (i := 932) (by decide +kernel)⟩⟩, fun z hz => .inr ?_⟩
      have hz : z = (0, 8, 11, 13) ∨ z = (0, 8, 14, 28) ∨ z = (0, 8, 17, 15) := by simpa using hz
      rcases hz with rfl | rfl | rfl
      · exact ⟨by decide, "java/lang/IllegalArgumentException", gt_w_in (i := 508) (by decide +kernel), .inr ⟨rfl, gt_X_in (by decide +kernel)⟩⟩
      · exact ⟨by decide, "java/util/NoSuchElementException", gt_w_in (i := 662) (by decide +kernel), .inr ⟨rfl, gt_X_in (by decide +kernel)⟩⟩
      · exact ⟨by decide, "java/lang/IllegalStateException", gt_w_in (i := 509) (by decide +kernel), .inr ⟨rfl, gt_X_in (by decide +kernel)⟩⟩
theorem gt_h92 : ∀ pc, gt_Wr 92 pc = true → ai_hnd gt_Ts "GoalDeskLaw" [(0, 8, 11, 28), (0, 8, 14, 15), (0, 8, 17, 30)] gt_ex (gt_P.2.1 92 pc) pc := by
  intro pc hw
  have hpc : pc = 3 := by
    simp [gt_Wr, gt_wr, gt_hl] at hw
    omega
  subst hpc
  refine ⟨fun x hx => ?_, fun x pc' hx => ?_⟩
  · have hx : gt_hf gt_hl 92 3 x = some none := hx
    exact absurd hx (gt_hf_none _ _ _ _)
  · have hx : gt_hf gt_hl 92 3 x = some (some pc') := hx
    have hm := gt_hf_mem hx
    have : (x = 2 ∧ pc' = 11) ∨ (x = 1 ∧ pc' = 14) ∨ (x = 3 ∧ pc' = 17) := by simpa [gt_hl] using hm
    rcases this with ⟨rfl, rfl⟩ | ⟨rfl, rfl⟩ | ⟨rfl, rfl⟩
    · refine ⟨[], (0, 8, 11, 28), [(0, 8, 14, 15), (0, 8, 17, 30)], rfl, rfl, by decide +kernel, ⟨by decide, "java/util/NoSuchElementException", gt_w_in (i := 662) (by decide +kernel), .inl ⟨rfl, gt_w_in (i := 1013) (by decide +kernel)⟩⟩, fun z hz => .inr ?_⟩
      simp at hz
    · refine ⟨[(0, 8, 11, 28)], (0, 8, 14, 15), [(0, 8, 17, 30)], rfl, rfl, by decide +kernel, ⟨by decide, "java/lang/IllegalStateException", gt_w_in (i := 509) (by decide +kernel), .inl ⟨rfl, gt_w_in (i := 580) (by decide +kernel)⟩⟩, fun z hz => .inr ?_⟩
      have hz : z = (0, 8, 11, 28) := by simpa using hz
      rcases hz with rfl
      · exact ⟨by decide, "java/util/NoSuchElementException", gt_w_in (i := 662) (by decide +kernel), .inr ⟨rfl, gt_X_in (by decide +kernel)⟩⟩
    · refine ⟨[(0, 8, 11, 28), (0, 8, 14, 15)], (0, 8, 17, 30), [], rfl, rfl, by decide +kernel, ⟨by decide, "java/lang/UnsupportedOperationException", gt_w_in (i := 663) (by decide +kernel), .inl ⟨rfl, gt_w_in (i := 932) (by decide +kernel)⟩⟩, fun z hz => .inr ?_⟩
      have hz : z = (0, 8, 11, 28) ∨ z = (0, 8, 14, 15) := by simpa using hz
      rcases hz with rfl | rfl
      · exact ⟨by decide, "java/util/NoSuchElementException", gt_w_in (i := 662) (by decide +kernel), .inr ⟨rfl, gt_X_in (by decide +kernel)⟩⟩
      · exact ⟨by decide, "java/lang/IllegalStateException", gt_w_in (i := 509) (by decide +kernel), .inr ⟨rfl, gt_X_in (by decide +kernel)⟩⟩
theorem gt_h94 : ∀ pc, gt_Wr 94 pc = true → ai_hnd gt_Ts "GoalDeskLaw" [(0, 10, 13, 13), (0, 10, 17, 28)] gt_ex (gt_P.2.1 94 pc) pc := by
  intro pc hw
  have hpc : pc = 5 := by
    simp [gt_Wr, gt_wr, gt_hl] at hw
    omega
  subst hpc
  refine ⟨fun x hx => ?_, fun x pc' hx => ?_⟩
  · have hx : gt_hf gt_hl 94 5 x = some none := hx
    exact absurd hx (gt_hf_none _ _ _ _)
  · have hx : gt_hf gt_hl 94 5 x = some (some pc') := hx
    have hm := gt_hf_mem hx
    have : (x = 0 ∧ pc' = 13) ∨ (x = 2 ∧ pc' = 17) := by simpa [gt_hl] using hm
    rcases this with ⟨rfl, rfl⟩ | ⟨rfl, rfl⟩
    · refine ⟨[], (0, 10, 13, 13), [(0, 10, 17, 28)], rfl, rfl, by decide +kernel, ⟨by decide, "java/lang/IllegalArgumentException", gt_w_in (i := 508) (by decide +kernel), .inl ⟨rfl, gt_w_in (i := 516) (by decide +kernel)⟩⟩, fun z hz => .inr ?_⟩
      simp at hz
    · refine ⟨[(0, 10, 13, 13)], (0, 10, 17, 28), [], rfl, rfl, by decide +kernel, ⟨by decide, "java/util/NoSuchElementException", gt_w_in (i := 662) (by decide +kernel), .inl ⟨rfl, gt_w_in (i := 1013) (by decide +kernel)⟩⟩, fun z hz => .inr ?_⟩
      have hz : z = (0, 10, 13, 13) := by simpa using hz
      rcases hz with rfl
      · exact ⟨by decide, "java/lang/IllegalArgumentException", gt_w_in (i := 508) (by decide +kernel), .inr ⟨rfl, gt_X_in (by decide +kernel)⟩⟩
theorem gt_h99 : ∀ pc, gt_Wr 99 pc = true → ai_hnd gt_Ts "GoalDeskLaw" [(0, 9, 12, 13)] gt_ex (gt_P.2.1 99 pc) pc := by
  intro pc hw
  have hpc : pc = 4 := by
    simp [gt_Wr, gt_wr, gt_hl] at hw
    omega
  subst hpc
  refine ⟨fun x hx => ?_, fun x pc' hx => ?_⟩
  · have hx : gt_hf gt_hl 99 4 x = some none := hx
    exact absurd hx (gt_hf_none _ _ _ _)
  · have hx : gt_hf gt_hl 99 4 x = some (some pc') := hx
    have hm := gt_hf_mem hx
    have : (x = 0 ∧ pc' = 12) := by simpa [gt_hl] using hm
    rcases this with ⟨rfl, rfl⟩
    · refine ⟨[], (0, 9, 12, 13), [], rfl, rfl, by decide +kernel, ⟨by decide, "java/lang/IllegalArgumentException", gt_w_in (i := 508) (by decide +kernel), .inl ⟨rfl, gt_w_in (i := 516) (by decide +kernel)⟩⟩, fun z hz => .inr ?_⟩
      simp at hz
theorem gt_m0 : gt_mo 0 (⟨"GoalDesk", "<init>", "()V"⟩, prog_1_method_1_code, []) := gt_mo_init (o := 0) (t := gt_t0) (by decide +kernel) (gt_w_in (i := 96) (by decide +kernel)) (by decide +kernel) (gt_w_in (i := 129) (by decide +kernel)) (by decide +kernel) rfl (by decide +kernel) (fun _ => rfl) gt_r0
theorem gt_m1 : gt_mo 1 (⟨"GoalDesk$Terms", "<init>", "()V"⟩, prog_9_method_1_code, []) := gt_mo_init (o := 8) (t := gt_t1) (by decide +kernel) (gt_w_in (i := 97) (by decide +kernel)) (by decide +kernel) (gt_w_in (i := 139) (by decide +kernel)) (by decide +kernel) rfl (by decide +kernel) (fun _ => rfl) gt_r1
theorem gt_m2 : gt_mo 2 (⟨"GoalDesk$Variables", "<init>", "(LGoalDesk$Terms;)V"⟩, prog_11_method_1_code, []) := gt_mo_init (o := 10) (t := gt_t2) (by decide +kernel) (gt_w_in (i := 98) (by decide +kernel)) (by decide +kernel) (gt_w_in (i := 164) (by decide +kernel)) (by decide +kernel) rfl (by decide +kernel) (fun _ => rfl) gt_r2
theorem gt_m3 : gt_mo 3 (⟨"GoalDesk$Clause", "<init>", "(I)V"⟩, prog_4_method_1_code, []) := gt_mo_init (o := 3) (t := gt_t3) (by decide +kernel) (gt_w_in (i := 99) (by decide +kernel)) (by decide +kernel) (gt_w_in (i := 222) (by decide +kernel)) (by decide +kernel) rfl (by decide +kernel) (fun _ => rfl) gt_r3
theorem gt_m4 : gt_mo 4 (⟨"GoalDesk$Reader", "<init>", "(LGoalDesk$Terms;)V"⟩, prog_6_method_1_code, []) := gt_mo_init (o := 5) (t := gt_t4) (by decide +kernel) (gt_w_in (i := 100) (by decide +kernel)) (by decide +kernel) (gt_w_in (i := 261) (by decide +kernel)) (by decide +kernel) rfl (by decide +kernel) (fun _ => rfl) gt_r4
theorem gt_m5 : gt_mo 5 (⟨"GoalDesk$Search", "<init>", "(LGoalDesk$Terms;LGoalDesk$Variables;)V"⟩, prog_7_method_1_code, []) := gt_mo_init (o := 6) (t := gt_t5) (by decide +kernel) (gt_w_in (i := 101) (by decide +kernel)) (by decide +kernel) (gt_w_in (i := 284) (by decide +kernel)) (by decide +kernel) rfl (by decide +kernel) (fun _ => rfl) gt_r5
theorem gt_m6 : gt_mo 6 (⟨"java/util/ArrayList", "<init>", "()V"⟩, prog_28_method_2_code, []) := gt_mo_init (o := 16) (t := gt_t6) (by decide +kernel) (gt_w_in (i := 104) (by decide +kernel)) (by decide +kernel) (gt_w_in (i := 290) (by decide +kernel)) (by decide +kernel) rfl (by decide +kernel) (fun _ => rfl) gt_r6
theorem gt_m7 : gt_mo 7 (⟨"java/util/AbstractList", "<init>", "()V"⟩, prog_27_method_1_code, []) := gt_mo_init (o := 15) (t := gt_t7) (by decide +kernel) (gt_w_in (i := 103) (by decide +kernel)) (by decide +kernel) (gt_w_in (i := 293) (by decide +kernel)) (by decide +kernel) rfl (by decide +kernel) (fun _ => rfl) gt_r7
theorem gt_m8 : gt_mo 8 (⟨"java/util/AbstractCollection", "<init>", "()V"⟩, prog_26_method_1_code, []) := gt_mo_init (o := 14) (t := gt_t8) (by decide +kernel) (gt_w_in (i := 102) (by decide +kernel)) (by decide +kernel) (gt_w_in (i := 296) (by decide +kernel)) (by decide +kernel) rfl (by decide +kernel) (fun _ => rfl) gt_r8
theorem gt_m9 : gt_mo 9 (⟨"GoalDesk$Steps", "<init>", "()V"⟩, prog_8_method_1_code, []) := gt_mo_init (o := 7) (t := gt_t9) (by decide +kernel) (gt_w_in (i := 105) (by decide +kernel)) (by decide +kernel) (gt_w_in (i := 316) (by decide +kernel)) (by decide +kernel) rfl (by decide +kernel) (fun _ => rfl) gt_r9
theorem gt_m10 : gt_mo 10 (⟨"GoalDesk$Pairs", "<init>", "(LGoalDesk$Terms;LGoalDesk$Variables;LGoalDesk$Steps;)V"⟩, prog_5_method_1_code, []) := gt_mo_init (o := 4) (t := gt_t10) (by decide +kernel) (gt_w_in (i := 106) (by decide +kernel)) (by decide +kernel) (gt_w_in (i := 328) (by decide +kernel)) (by decide +kernel) rfl (by decide +kernel) (fun _ => rfl) gt_r10
theorem gt_m11 : gt_mo 11 (⟨"GoalDesk$Aparts", "<init>", "(LGoalDesk$Variables;LGoalDesk$Pairs;)V"⟩, prog_2_method_1_code, []) := gt_mo_init (o := 1) (t := gt_t11) (by decide +kernel) (gt_w_in (i := 107) (by decide +kernel)) (by decide +kernel) (gt_w_in (i := 362) (by decide +kernel)) (by decide +kernel) rfl (by decide +kernel) (fun _ => rfl) gt_r11
theorem gt_m12 : gt_mo 12 (⟨"GoalDesk$Writer", "<init>", "(LGoalDesk$Terms;LGoalDesk$Variables;)V"⟩, prog_12_method_1_code, []) := gt_mo_init (o := 11) (t := gt_t12) (by decide +kernel) (gt_w_in (i := 108) (by decide +kernel)) (by decide +kernel) (gt_w_in (i := 450) (by decide +kernel)) (by decide +kernel) rfl (by decide +kernel) (fun _ => rfl) gt_r12
theorem gt_m13 : gt_mo 13 (⟨"GoalDesk", "count", "(I)I"⟩, prog_1_method_9_code, []) := gt_mo_plain (o := 0) (t := gt_t13) (by decide +kernel) (gt_w_in (i := 96) (by decide +kernel)) (by decide +kernel) (gt_w_in (i := 500) (by decide +kernel)) (by decide +kernel) (by decide +kernel) (by decide +kernel) (fun _ => rfl) gt_r13
theorem gt_m14 : gt_mo 14 (⟨"GoalDesk$Aparts", "waitingNow", "()I"⟩, prog_2_method_7_code, []) := gt_mo_plain (o := 1) (t := gt_t14) (by decide +kernel) (gt_w_in (i := 107) (by decide +kernel)) (by decide +kernel) (gt_w_in (i := 504) (by decide +kernel)) (by decide +kernel) (by decide +kernel) (by decide +kernel) (fun _ => rfl) gt_r14
theorem gt_m15 : gt_mo 15 (⟨"GoalDeskLaw", "type", "(LGoalDesk;J[J)I"⟩, method_3_code, [(0, 9, 12, 13), (0, 9, 16, 15)]) := gt_mo_with (o := 12) (t := gt_t15) (by decide +kernel) (gt_w_in (i := 95) (by decide +kernel)) (by decide +kernel) (gt_w_in (i := 507) (by decide +kernel)) (by decide +kernel) gt_h15 (by decide +kernel) (fun _ => rfl) gt_r15
theorem gt_m16 : gt_mo 16 (⟨"GoalDesk", "type", "(J)I"⟩, prog_1_method_2_code, []) := gt_mo_plain (o := 0) (t := gt_t16) (by decide +kernel) (gt_w_in (i := 96) (by decide +kernel)) (by decide +kernel) (gt_w_in (i := 513) (by decide +kernel)) (by decide +kernel) (by decide +kernel) (by decide +kernel) (fun _ => rfl) gt_r16
theorem gt_m17 : gt_mo 17 (⟨"GoalDeskLaw", "add", "(LGoalDesk;[J)I"⟩, method_4_code, [(0, 8, 11, 13), (0, 8, 14, 15)]) := gt_mo_with (o := 12) (t := gt_t17) (by decide +kernel) (gt_w_in (i := 95) (by decide +kernel)) (by decide +kernel) (gt_w_in (i := 595) (by decide +kernel)) (by decide +kernel) gt_h17 (by decide +kernel) (fun _ => rfl) gt_r17
theorem gt_m18 : gt_mo 18 (⟨"GoalDesk", "add", "()I"⟩, prog_1_method_3_code, []) := gt_mo_plain (o := 0) (t := gt_t18) (by decide +kernel) (gt_w_in (i := 96) (by decide +kernel)) (by decide +kernel) (gt_w_in (i := 599) (by decide +kernel)) (by decide +kernel) (by decide +kernel) (by decide +kernel) (fun _ => rfl) gt_r18
theorem gt_m19 : gt_mo 19 (⟨"GoalDesk$Reader", "readClause", "([CILGoalDesk$Clause;)Z"⟩, prog_6_method_2_code, []) := gt_mo_plain (o := 5) (t := gt_t19) (by decide +kernel) (gt_w_in (i := 100) (by decide +kernel)) (by decide +kernel) (gt_w_in (i := 603) (by decide +kernel)) (by decide +kernel) (by decide +kernel) (by decide +kernel) (fun _ => rfl) gt_r19
theorem gt_m20 : gt_mo 20 (⟨"GoalDesk$Reader", "begin", "([CILGoalDesk$Clause;)V"⟩, prog_6_method_4_code, []) := gt_mo_plain (o := 5) (t := gt_t20) (by decide +kernel) (gt_w_in (i := 100) (by decide +kernel)) (by decide +kernel) (gt_w_in (i := 607) (by decide +kernel)) (by decide +kernel) (by decide +kernel) (by decide +kernel) (fun _ => rfl) gt_r20
theorem gt_m21 : gt_mo 21 (⟨"GoalDesk$Reader", "here", "()C"⟩, prog_6_method_5_code, []) := gt_mo_plain (o := 5) (t := gt_t21) (by decide +kernel) (gt_w_in (i := 100) (by decide +kernel)) (by decide +kernel) (gt_w_in (i := 611) (by decide +kernel)) (by decide +kernel) (by decide +kernel) (by decide +kernel) (fun _ => rfl) gt_r21
theorem gt_m22 : gt_mo 22 (⟨"GoalDesk", "isSmall", "(C)Z"⟩, prog_1_method_12_code, []) := gt_mo_plain (o := 0) (t := gt_t22) (by decide +kernel) (gt_w_in (i := 96) (by decide +kernel)) (by decide +kernel) (gt_w_in (i := 614) (by decide +kernel)) (by decide +kernel) (by decide +kernel) (by decide +kernel) (fun _ => rfl) gt_r22
theorem gt_m23 : gt_mo 23 (⟨"GoalDesk$Reader", "readTerm", "(I)Z"⟩, prog_6_method_9_code, []) := gt_mo_plain (o := 5) (t := gt_t23) (by decide +kernel) (gt_w_in (i := 100) (by decide +kernel)) (by decide +kernel) (gt_w_in (i := 618) (by decide +kernel)) (by decide +kernel) (by decide +kernel) (by decide +kernel) (fun _ => rfl) gt_r23
theorem gt_m24 : gt_mo 24 (⟨"GoalDesk", "isVariable", "(C)Z"⟩, prog_1_method_10_code, []) := gt_mo_plain (o := 0) (t := gt_t24) (by decide +kernel) (gt_w_in (i := 96) (by decide +kernel)) (by decide +kernel) (gt_w_in (i := 621) (by decide +kernel)) (by decide +kernel) (by decide +kernel) (by decide +kernel) (fun _ => rfl) gt_r24
theorem gt_m25 : gt_mo 25 (⟨"GoalDesk", "isDigit", "(C)Z"⟩, prog_1_method_11_code, []) := gt_mo_plain (o := 0) (t := gt_t25) (by decide +kernel) (gt_w_in (i := 96) (by decide +kernel)) (by decide +kernel) (gt_w_in (i := 624) (by decide +kernel)) (by decide +kernel) (by decide +kernel) (by decide +kernel) (fun _ => rfl) gt_r25
theorem gt_m26 : gt_mo 26 (⟨"GoalDesk$Reader", "readArguments", "(II)Z"⟩, prog_6_method_10_code, []) := gt_mo_plain (o := 5) (t := gt_t26) (by decide +kernel) (gt_w_in (i := 100) (by decide +kernel)) (by decide +kernel) (gt_w_in (i := 628) (by decide +kernel)) (by decide +kernel) (by decide +kernel) (by decide +kernel) (fun _ => rfl) gt_r26
theorem gt_m27 : gt_mo 27 (⟨"GoalDesk$Reader", "skip", "(C)Z"⟩, prog_6_method_6_code, []) := gt_mo_plain (o := 5) (t := gt_t27) (by decide +kernel) (gt_w_in (i := 100) (by decide +kernel)) (by decide +kernel) (gt_w_in (i := 632) (by decide +kernel)) (by decide +kernel) (by decide +kernel) (by decide +kernel) (fun _ => rfl) gt_r27
theorem gt_m28 : gt_mo 28 (⟨"GoalDesk$Reader", "readGoals", "()Z"⟩, prog_6_method_7_code, []) := gt_mo_plain (o := 5) (t := gt_t28) (by decide +kernel) (gt_w_in (i := 100) (by decide +kernel)) (by decide +kernel) (gt_w_in (i := 636) (by decide +kernel)) (by decide +kernel) (by decide +kernel) (by decide +kernel) (fun _ => rfl) gt_r28
theorem gt_m29 : gt_mo 29 (⟨"GoalDesk$Reader", "readGoal", "()Z"⟩, prog_6_method_8_code, []) := gt_mo_plain (o := 5) (t := gt_t29) (by decide +kernel) (gt_w_in (i := 100) (by decide +kernel)) (by decide +kernel) (gt_w_in (i := 640) (by decide +kernel)) (by decide +kernel) (by decide +kernel) (by decide +kernel) (fun _ => rfl) gt_r29
theorem gt_m30 : gt_mo 30 (⟨"GoalDesk$Clause", "putGoal", "(CII)V"⟩, prog_4_method_2_code, []) := gt_mo_plain (o := 3) (t := gt_t30) (by decide +kernel) (gt_w_in (i := 99) (by decide +kernel)) (by decide +kernel) (gt_w_in (i := 644) (by decide +kernel)) (by decide +kernel) (by decide +kernel) (by decide +kernel) (fun _ => rfl) gt_r30
theorem gt_m31 : gt_mo 31 (⟨"GoalDesk$Reader", "rankVariables", "()V"⟩, prog_6_method_11_code, []) := gt_mo_plain (o := 5) (t := gt_t31) (by decide +kernel) (gt_w_in (i := 100) (by decide +kernel)) (by decide +kernel) (gt_w_in (i := 648) (by decide +kernel)) (by decide +kernel) (by decide +kernel) (by decide +kernel) (fun _ => rfl) gt_r31
theorem gt_m32 : gt_mo 32 (⟨"java/util/Arrays", "fill", "([II)V"⟩, prog_29_method_103_code, []) := gt_mo_plain (o := 17) (t := gt_t32) (by decide +kernel) (gt_w_in (i := 115) (by decide +kernel)) (by decide +kernel) (gt_w_in (i := 651) (by decide +kernel)) (by decide +kernel) (by decide +kernel) (by decide +kernel) (fun _ => rfl) gt_r32
theorem gt_m33 : gt_mo 33 (⟨"GoalDeskLaw", "drop", "(LGoalDesk;I)I"⟩, method_5_code, [(0, 5, 8, 13)]) := gt_mo_with (o := 12) (t := gt_t33) (by decide +kernel) (gt_w_in (i := 95) (by decide +kernel)) (by decide +kernel) (gt_w_in (i := 654) (by decide +kernel)) (by decide +kernel) gt_h33 (by decide +kernel) (fun _ => rfl) gt_r33
theorem gt_m34 : gt_mo 34 (⟨"GoalDesk", "drop", "(I)V"⟩, prog_1_method_4_code, []) := gt_mo_plain (o := 0) (t := gt_t34) (by decide +kernel) (gt_w_in (i := 96) (by decide +kernel)) (by decide +kernel) (gt_w_in (i := 658) (by decide +kernel)) (by decide +kernel) (by decide +kernel) (by decide +kernel) (fun _ => rfl) gt_r34
theorem gt_m35 : gt_mo 35 (⟨"GoalDeskLaw", "ask", "(LGoalDesk;[J)I"⟩, method_6_code, [(0, 8, 11, 13), (0, 8, 14, 28), (0, 8, 17, 15), (0, 8, 20, 30)]) := gt_mo_with (o := 12) (t := gt_t35) (by decide +kernel) (gt_w_in (i := 95) (by decide +kernel)) (by decide +kernel) (gt_w_in (i := 661) (by decide +kernel)) (by decide +kernel) gt_h35 (by decide +kernel) (fun _ => rfl) gt_r35
theorem gt_m36 : gt_mo 36 (⟨"GoalDesk", "ask", "()I"⟩, prog_1_method_5_code, []) := gt_mo_plain (o := 0) (t := gt_t36) (by decide +kernel) (gt_w_in (i := 96) (by decide +kernel)) (by decide +kernel) (gt_w_in (i := 667) (by decide +kernel)) (by decide +kernel) (by decide +kernel) (by decide +kernel) (fun _ => rfl) gt_r36
theorem gt_m37 : gt_mo 37 (⟨"GoalDesk$Reader", "readQuestion", "([CILGoalDesk$Clause;)Z"⟩, prog_6_method_3_code, []) := gt_mo_plain (o := 5) (t := gt_t37) (by decide +kernel) (gt_w_in (i := 100) (by decide +kernel)) (by decide +kernel) (gt_w_in (i := 671) (by decide +kernel)) (by decide +kernel) (by decide +kernel) (by decide +kernel) (fun _ => rfl) gt_r37
theorem gt_m38 : gt_mo 38 (⟨"GoalDesk$Search", "begin", "(LGoalDesk$Clause;[LGoalDesk$Clause;I)V"⟩, prog_7_method_2_code, []) := gt_mo_plain (o := 6) (t := gt_t38) (by decide +kernel) (gt_w_in (i := 101) (by decide +kernel)) (by decide +kernel) (gt_w_in (i := 675) (by decide +kernel)) (by decide +kernel) (by decide +kernel) (by decide +kernel) (fun _ => rfl) gt_r38
theorem gt_m39 : gt_mo 39 (⟨"GoalDesk$Variables", "clear", "()V"⟩, prog_11_method_2_code, []) := gt_mo_plain (o := 10) (t := gt_t39) (by decide +kernel) (gt_w_in (i := 98) (by decide +kernel)) (by decide +kernel) (gt_w_in (i := 679) (by decide +kernel)) (by decide +kernel) (by decide +kernel) (by decide +kernel) (fun _ => rfl) gt_r39
theorem gt_m40 : gt_mo 40 (⟨"GoalDesk$Aparts", "clear", "()V"⟩, prog_2_method_2_code, []) := gt_mo_plain (o := 1) (t := gt_t40) (by decide +kernel) (gt_w_in (i := 107) (by decide +kernel)) (by decide +kernel) (gt_w_in (i := 683) (by decide +kernel)) (by decide +kernel) (by decide +kernel) (by decide +kernel) (fun _ => rfl) gt_r40
theorem gt_m41 : gt_mo 41 (⟨"GoalDesk$Variables", "make", "(I)I"⟩, prog_11_method_3_code, []) := gt_mo_plain (o := 10) (t := gt_t41) (by decide +kernel) (gt_w_in (i := 98) (by decide +kernel)) (by decide +kernel) (gt_w_in (i := 687) (by decide +kernel)) (by decide +kernel) (by decide +kernel) (by decide +kernel) (fun _ => rfl) gt_r41
theorem gt_m42 : gt_mo 42 (⟨"java/util/Arrays", "copyOf", "([II)[I"⟩, prog_29_method_123_code, []) := gt_mo_plain (o := 17) (t := gt_t42) (by decide +kernel) (gt_w_in (i := 115) (by decide +kernel)) (by decide +kernel) (gt_w_in (i := 690) (by decide +kernel)) (by decide +kernel) (by decide +kernel) (by decide +kernel) (fun _ => rfl) gt_r42
theorem gt_m43 : gt_mo 43 (⟨"GoalDesk$Search", "putBodyInFront", "(LGoalDesk$Clause;II)V"⟩, prog_7_method_13_code, []) := gt_mo_plain (o := 6) (t := gt_t43) (by decide +kernel) (gt_w_in (i := 101) (by decide +kernel)) (by decide +kernel) (gt_w_in (i := 708) (by decide +kernel)) (by decide +kernel) (by decide +kernel) (by decide +kernel) (fun _ => rfl) gt_r43
theorem gt_m44 : gt_mo 44 (⟨"GoalDesk$Terms", "termOf", "(II)I"⟩, prog_9_method_2_code, []) := gt_mo_plain (o := 8) (t := gt_t44) (by decide +kernel) (gt_w_in (i := 97) (by decide +kernel)) (by decide +kernel) (gt_w_in (i := 712) (by decide +kernel)) (by decide +kernel) (by decide +kernel) (by decide +kernel) (fun _ => rfl) gt_r44
theorem gt_m45 : gt_mo 45 (⟨"GoalDesk$Search", "putGoalInFront", "(CIII)V"⟩, prog_7_method_14_code, []) := gt_mo_plain (o := 6) (t := gt_t45) (by decide +kernel) (gt_w_in (i := 101) (by decide +kernel)) (by decide +kernel) (gt_w_in (i := 716) (by decide +kernel)) (by decide +kernel) (by decide +kernel) (by decide +kernel) (fun _ => rfl) gt_r45
theorem gt_m46 : gt_mo 46 (⟨"java/util/ArrayList", "size", "()I"⟩, prog_28_method_8_code, []) := gt_mo_plain (o := 16) (t := gt_t46) (by decide +kernel) (gt_w_in (i := 104) (by decide +kernel)) (by decide +kernel) (gt_w_in (i := 720) (by decide +kernel)) (by decide +kernel) (by decide +kernel) (by decide +kernel) (fun _ => rfl) gt_r46
theorem gt_m47 : gt_mo 47 (⟨"GoalDesk$ToDo", "<init>", "()V"⟩, prog_10_method_1_code, []) := gt_mo_init (o := 9) (t := gt_t47) (by decide +kernel) (gt_w_in (i := 118) (by decide +kernel)) (by decide +kernel) (gt_w_in (i := 725) (by decide +kernel)) (by decide +kernel) rfl (by decide +kernel) (fun _ => rfl) gt_r47
theorem gt_m48 : gt_mo 48 (⟨"java/util/ArrayList", "add", "(Ljava/lang/Object;)Z"⟩, prog_28_method_25_code, []) := gt_mo_plain (o := 16) (t := gt_t48) (by decide +kernel) (gt_w_in (i := 104) (by decide +kernel)) (by decide +kernel) (gt_w_in (i := 746) (by decide +kernel)) (by decide +kernel) (by decide +kernel) (by decide +kernel) (fun _ => rfl) gt_r48
theorem gt_m49 : gt_mo 49 (⟨"java/util/ArrayList", "add", "(Ljava/lang/Object;[Ljava/lang/Object;I)V"⟩, prog_28_method_24_code, []) := gt_mo_plain (o := 16) (t := gt_t49) (by decide +kernel) (gt_w_in (i := 104) (by decide +kernel)) (by decide +kernel) (gt_w_in (i := 750) (by decide +kernel)) (by decide +kernel) (by decide +kernel) (by decide +kernel) (fun _ => rfl) gt_r49
theorem gt_m50 : gt_mo 50 (⟨"java/util/ArrayList", "grow", "()[Ljava/lang/Object;"⟩, prog_28_method_7_code, []) := gt_mo_plain (o := 16) (t := gt_t50) (by decide +kernel) (gt_w_in (i := 104) (by decide +kernel)) (by decide +kernel) (gt_w_in (i := 754) (by decide +kernel)) (by decide +kernel) (by decide +kernel) (by decide +kernel) (fun _ => rfl) gt_r50
theorem gt_m51 : gt_mo 51 (⟨"java/util/ArrayList", "grow", "(I)[Ljava/lang/Object;"⟩, prog_28_method_6_code, []) := gt_mo_plain (o := 16) (t := gt_t51) (by decide +kernel) (gt_w_in (i := 104) (by decide +kernel)) (by decide +kernel) (gt_w_in (i := 758) (by decide +kernel)) (by decide +kernel) (by decide +kernel) (by decide +kernel) (fun _ => rfl) gt_r51
theorem gt_m52 : gt_mo 52 (⟨"jdk/internal/util/ArraysSupport", "newLength", "(III)I"⟩, prog_36_method_27_code, []) := gt_mo_plain (o := 19) (t := gt_t52) (by decide +kernel) (gt_w_in (i := 119) (by decide +kernel)) (by decide +kernel) (gt_w_in (i := 761) (by decide +kernel)) (by decide +kernel) (by decide +kernel) (by decide +kernel) (fun _ => rfl) gt_r52
theorem gt_m53 : gt_mo 53 (⟨"jdk/internal/util/ArraysSupport", "hugeLength", "(II)I"⟩, prog_36_method_28_code, []) := gt_mo_plain (o := 19) (t := gt_t53) (by decide +kernel) (gt_w_in (i := 119) (by decide +kernel)) (by decide +kernel) (gt_w_in (i := 768) (by decide +kernel)) (by decide +kernel) (by decide +kernel) (by decide +kernel) (fun _ => rfl) gt_r53
theorem gt_m54 : gt_mo 54 (⟨"java/util/Arrays", "copyOf", "([Ljava/lang/Object;I)[Ljava/lang/Object;"⟩, prog_29_method_119_code, []) := gt_mo_plain (o := 17) (t := gt_t54) (by decide +kernel) (gt_w_in (i := 115) (by decide +kernel)) (by decide +kernel) (gt_w_in (i := 771) (by decide +kernel)) (by decide +kernel) (by decide +kernel) (by decide +kernel) (fun _ => rfl) gt_r54
theorem gt_m55 : gt_mo 55 (⟨"java/util/Arrays", "copyOf", "([Ljava/lang/Object;ILjava/lang/Class;)[Ljava/lang/Object;"⟩, prog_29_method_120_code, []) := gt_mo_plain (o := 17) (t := gt_t55) (by decide +kernel) (gt_w_in (i := 115) (by decide +kernel)) (by decide +kernel) (gt_w_in (i := 796) (by decide +kernel)) (by decide +kernel) (by decide +kernel) (by decide +kernel) (fun _ => rfl) gt_r55
theorem gt_m56 : gt_mo 56 (⟨"java/util/ArrayList", "get", "(I)Ljava/lang/Object;"⟩, prog_28_method_20_code, []) := gt_mo_plain (o := 16) (t := gt_t56) (by decide +kernel) (gt_w_in (i := 104) (by decide +kernel)) (by decide +kernel) (gt_w_in (i := 805) (by decide +kernel)) (by decide +kernel) (by decide +kernel) (by decide +kernel) (fun _ => rfl) gt_r56
theorem gt_m57 : gt_mo 57 (⟨"java/util/Objects", "checkIndex", "(II)I"⟩, prog_33_method_17_code, []) := gt_mo_plain (o := 18) (t := gt_t57) (by decide +kernel) (gt_w_in (i := 120) (by decide +kernel)) (by decide +kernel) (gt_w_in (i := 808) (by decide +kernel)) (by decide +kernel) (by decide +kernel) (by decide +kernel) (fun _ => rfl) gt_r57
theorem gt_m58 : gt_mo 58 (⟨"jdk/internal/util/Preconditions", "checkIndex", "(IILjava/util/function/BiFunction;)I"⟩, prog_37_method_11_code, []) := gt_mo_plain (o := 20) (t := gt_t58) (by decide +kernel) (gt_w_in (i := 121) (by decide +kernel)) (by decide +kernel) (gt_w_in (i := 811) (by decide +kernel)) (by decide +kernel) (by decide +kernel) (by decide +kernel) (fun _ => rfl) gt_r58
theorem gt_m59 : gt_mo 59 (⟨"java/util/ArrayList", "elementData", "(I)Ljava/lang/Object;"⟩, prog_28_method_18_code, []) := gt_mo_plain (o := 16) (t := gt_t59) (by decide +kernel) (gt_w_in (i := 104) (by decide +kernel)) (by decide +kernel) (gt_w_in (i := 815) (by decide +kernel)) (by decide +kernel) (by decide +kernel) (by decide +kernel) (fun _ => rfl) gt_r59
theorem gt_m60 : gt_mo 60 (⟨"GoalDesk$Search", "seek", "(Z)Z"⟩, prog_7_method_3_code, []) := gt_mo_plain (o := 6) (t := gt_t60) (by decide +kernel) (gt_w_in (i := 101) (by decide +kernel)) (by decide +kernel) (gt_w_in (i := 819) (by decide +kernel)) (by decide +kernel) (by decide +kernel) (by decide +kernel) (fun _ => rfl) gt_r60
theorem gt_m61 : gt_mo 61 (⟨"GoalDesk$Pairs", "clear", "()V"⟩, prog_5_method_2_code, []) := gt_mo_plain (o := 4) (t := gt_t61) (by decide +kernel) (gt_w_in (i := 106) (by decide +kernel)) (by decide +kernel) (gt_w_in (i := 824) (by decide +kernel)) (by decide +kernel) (by decide +kernel) (by decide +kernel) (fun _ => rfl) gt_r61
theorem gt_m62 : gt_mo 62 (⟨"GoalDesk$Search", "doFirst", "(LGoalDesk$ToDo;)Z"⟩, prog_7_method_4_code, []) := gt_mo_plain (o := 6) (t := gt_t62) (by decide +kernel) (gt_w_in (i := 101) (by decide +kernel)) (by decide +kernel) (gt_w_in (i := 828) (by decide +kernel)) (by decide +kernel) (by decide +kernel) (by decide +kernel) (fun _ => rfl) gt_r62
theorem gt_m63 : gt_mo 63 (⟨"GoalDesk$Steps", "takeOne", "()V"⟩, prog_8_method_2_code, []) := gt_mo_plain (o := 7) (t := gt_t63) (by decide +kernel) (gt_w_in (i := 105) (by decide +kernel)) (by decide +kernel) (gt_w_in (i := 832) (by decide +kernel)) (by decide +kernel) (by decide +kernel) (by decide +kernel) (fun _ => rfl) gt_r63
theorem gt_m64 : gt_mo 64 (⟨"GoalDesk$Search", "beginCall", "(I)Z"⟩, prog_7_method_7_code, []) := gt_mo_plain (o := 6) (t := gt_t64) (by decide +kernel) (gt_w_in (i := 101) (by decide +kernel)) (by decide +kernel) (gt_w_in (i := 839) (by decide +kernel)) (by decide +kernel) (by decide +kernel) (by decide +kernel) (fun _ => rfl) gt_r64
theorem gt_m65 : gt_mo 65 (⟨"GoalDesk$Search", "findClause", "(II)I"⟩, prog_7_method_8_code, []) := gt_mo_plain (o := 6) (t := gt_t65) (by decide +kernel) (gt_w_in (i := 101) (by decide +kernel)) (by decide +kernel) (gt_w_in (i := 843) (by decide +kernel)) (by decide +kernel) (by decide +kernel) (by decide +kernel) (fun _ => rfl) gt_r65
theorem gt_m66 : gt_mo 66 (⟨"GoalDesk$Terms", "letterOf", "(I)C"⟩, prog_9_method_3_code, []) := gt_mo_plain (o := 8) (t := gt_t66) (by decide +kernel) (gt_w_in (i := 97) (by decide +kernel)) (by decide +kernel) (gt_w_in (i := 847) (by decide +kernel)) (by decide +kernel) (by decide +kernel) (by decide +kernel) (fun _ => rfl) gt_r66
theorem gt_m67 : gt_mo 67 (⟨"GoalDesk$Terms", "arityOf", "(I)I"⟩, prog_9_method_4_code, []) := gt_mo_plain (o := 8) (t := gt_t67) (by decide +kernel) (gt_w_in (i := 97) (by decide +kernel)) (by decide +kernel) (gt_w_in (i := 851) (by decide +kernel)) (by decide +kernel) (by decide +kernel) (by decide +kernel) (fun _ => rfl) gt_r67
theorem gt_m68 : gt_mo 68 (⟨"GoalDesk$Search", "leaveChoice", "(II)V"⟩, prog_7_method_9_code, []) := gt_mo_plain (o := 6) (t := gt_t68) (by decide +kernel) (gt_w_in (i := 101) (by decide +kernel)) (by decide +kernel) (gt_w_in (i := 855) (by decide +kernel)) (by decide +kernel) (by decide +kernel) (by decide +kernel) (fun _ => rfl) gt_r68
theorem gt_m69 : gt_mo 69 (⟨"GoalDesk$Choice", "<init>", "()V"⟩, prog_3_method_1_code, []) := gt_mo_init (o := 2) (t := gt_t69) (by decide +kernel) (gt_w_in (i := 122) (by decide +kernel)) (by decide +kernel) (gt_w_in (i := 860) (by decide +kernel)) (by decide +kernel) rfl (by decide +kernel) (fun _ => rfl) gt_r69
theorem gt_m70 : gt_mo 70 (⟨"GoalDesk$Search", "takeClause", "(III)V"⟩, prog_7_method_11_code, []) := gt_mo_plain (o := 6) (t := gt_t70) (by decide +kernel) (gt_w_in (i := 101) (by decide +kernel)) (by decide +kernel) (gt_w_in (i := 896) (by decide +kernel)) (by decide +kernel) (by decide +kernel) (by decide +kernel) (fun _ => rfl) gt_r70
theorem gt_m71 : gt_mo 71 (⟨"GoalDesk$Pairs", "putArguments", "(II)V"⟩, prog_5_method_4_code, []) := gt_mo_plain (o := 4) (t := gt_t71) (by decide +kernel) (gt_w_in (i := 106) (by decide +kernel)) (by decide +kernel) (gt_w_in (i := 900) (by decide +kernel)) (by decide +kernel) (by decide +kernel) (by decide +kernel) (fun _ => rfl) gt_r71
theorem gt_m72 : gt_mo 72 (⟨"GoalDesk$Terms", "argumentOf", "(II)I"⟩, prog_9_method_5_code, []) := gt_mo_plain (o := 8) (t := gt_t72) (by decide +kernel) (gt_w_in (i := 97) (by decide +kernel)) (by decide +kernel) (gt_w_in (i := 905) (by decide +kernel)) (by decide +kernel) (by decide +kernel) (by decide +kernel) (fun _ => rfl) gt_r72
theorem gt_m73 : gt_mo 73 (⟨"GoalDesk$Pairs", "put", "(II)V"⟩, prog_5_method_3_code, []) := gt_mo_plain (o := 4) (t := gt_t73) (by decide +kernel) (gt_w_in (i := 106) (by decide +kernel)) (by decide +kernel) (gt_w_in (i := 909) (by decide +kernel)) (by decide +kernel) (by decide +kernel) (by decide +kernel) (fun _ => rfl) gt_r73
theorem gt_m74 : gt_mo 74 (⟨"GoalDesk$Aparts", "putNewest", "(II)V"⟩, prog_2_method_3_code, []) := gt_mo_plain (o := 1) (t := gt_t74) (by decide +kernel) (gt_w_in (i := 107) (by decide +kernel)) (by decide +kernel) (gt_w_in (i := 914) (by decide +kernel)) (by decide +kernel) (by decide +kernel) (by decide +kernel) (fun _ => rfl) gt_r74
theorem gt_m75 : gt_mo 75 (⟨"GoalDesk$Variables", "valueOf", "(I)I"⟩, prog_11_method_4_code, []) := gt_mo_plain (o := 10) (t := gt_t75) (by decide +kernel) (gt_w_in (i := 98) (by decide +kernel)) (by decide +kernel) (gt_w_in (i := 918) (by decide +kernel)) (by decide +kernel) (by decide +kernel) (by decide +kernel) (fun _ => rfl) gt_r75
theorem gt_m76 : gt_mo 76 (⟨"GoalDesk$Terms", "variableOf", "(I)I"⟩, prog_9_method_6_code, []) := gt_mo_plain (o := 8) (t := gt_t76) (by decide +kernel) (gt_w_in (i := 97) (by decide +kernel)) (by decide +kernel) (gt_w_in (i := 924) (by decide +kernel)) (by decide +kernel) (by decide +kernel) (by decide +kernel) (fun _ => rfl) gt_r76
theorem gt_m77 : gt_mo 77 (⟨"GoalDesk$Search", "isLess", "(II)Z"⟩, prog_7_method_5_code, []) := gt_mo_plain (o := 6) (t := gt_t77) (by decide +kernel) (gt_w_in (i := 101) (by decide +kernel)) (by decide +kernel) (gt_w_in (i := 928) (by decide +kernel)) (by decide +kernel) (by decide +kernel) (by decide +kernel) (fun _ => rfl) gt_r77
theorem gt_m78 : gt_mo 78 (⟨"GoalDesk$Search", "sleepOn", "(II)V"⟩, prog_7_method_6_code, []) := gt_mo_plain (o := 6) (t := gt_t78) (by decide +kernel) (gt_w_in (i := 101) (by decide +kernel)) (by decide +kernel) (gt_w_in (i := 948) (by decide +kernel)) (by decide +kernel) (by decide +kernel) (by decide +kernel) (fun _ => rfl) gt_r78
theorem gt_m79 : gt_mo 79 (⟨"GoalDesk$Variables", "putToSleep", "(II)V"⟩, prog_11_method_7_code, []) := gt_mo_plain (o := 10) (t := gt_t79) (by decide +kernel) (gt_w_in (i := 98) (by decide +kernel)) (by decide +kernel) (gt_w_in (i := 952) (by decide +kernel)) (by decide +kernel) (by decide +kernel) (by decide +kernel) (fun _ => rfl) gt_r79
theorem gt_m80 : gt_mo 80 (⟨"GoalDesk$Variables", "linkBehind", "(III)V"⟩, prog_11_method_8_code, []) := gt_mo_plain (o := 10) (t := gt_t80) (by decide +kernel) (gt_w_in (i := 98) (by decide +kernel)) (by decide +kernel) (gt_w_in (i := 956) (by decide +kernel)) (by decide +kernel) (by decide +kernel) (by decide +kernel) (fun _ => rfl) gt_r80
theorem gt_m81 : gt_mo 81 (⟨"GoalDesk$Search", "goBack", "(LGoalDesk$Choice;)V"⟩, prog_7_method_10_code, []) := gt_mo_plain (o := 6) (t := gt_t81) (by decide +kernel) (gt_w_in (i := 101) (by decide +kernel)) (by decide +kernel) (gt_w_in (i := 960) (by decide +kernel)) (by decide +kernel) (by decide +kernel) (by decide +kernel) (fun _ => rfl) gt_r81
theorem gt_m82 : gt_mo 82 (⟨"GoalDesk$Variables", "free", "(I)V"⟩, prog_11_method_6_code, []) := gt_mo_plain (o := 10) (t := gt_t82) (by decide +kernel) (gt_w_in (i := 98) (by decide +kernel)) (by decide +kernel) (gt_w_in (i := 964) (by decide +kernel)) (by decide +kernel) (by decide +kernel) (by decide +kernel) (fun _ => rfl) gt_r82
theorem gt_m83 : gt_mo 83 (⟨"GoalDesk$Variables", "unlink", "(II)V"⟩, prog_11_method_9_code, []) := gt_mo_plain (o := 10) (t := gt_t83) (by decide +kernel) (gt_w_in (i := 98) (by decide +kernel)) (by decide +kernel) (gt_w_in (i := 968) (by decide +kernel)) (by decide +kernel) (by decide +kernel) (by decide +kernel) (fun _ => rfl) gt_r83
theorem gt_m84 : gt_mo 84 (⟨"GoalDesk$Aparts", "goBack", "(II)V"⟩, prog_2_method_6_code, []) := gt_mo_plain (o := 1) (t := gt_t84) (by decide +kernel) (gt_w_in (i := 107) (by decide +kernel)) (by decide +kernel) (gt_w_in (i := 972) (by decide +kernel)) (by decide +kernel) (by decide +kernel) (by decide +kernel) (fun _ => rfl) gt_r84
theorem gt_m85 : gt_mo 85 (⟨"GoalDesk$Pairs", "makeSame", "(Z)Z"⟩, prog_5_method_5_code, []) := gt_mo_plain (o := 4) (t := gt_t85) (by decide +kernel) (gt_w_in (i := 106) (by decide +kernel)) (by decide +kernel) (gt_w_in (i := 976) (by decide +kernel)) (by decide +kernel) (by decide +kernel) (by decide +kernel) (fun _ => rfl) gt_r85
theorem gt_m86 : gt_mo 86 (⟨"GoalDesk$Pairs", "makePairSame", "(IIZ)Z"⟩, prog_5_method_6_code, []) := gt_mo_plain (o := 4) (t := gt_t86) (by decide +kernel) (gt_w_in (i := 106) (by decide +kernel)) (by decide +kernel) (gt_w_in (i := 982) (by decide +kernel)) (by decide +kernel) (by decide +kernel) (by decide +kernel) (fun _ => rfl) gt_r86
theorem gt_m87 : gt_mo 87 (⟨"GoalDesk$Variables", "bind", "(II)V"⟩, prog_11_method_5_code, []) := gt_mo_plain (o := 10) (t := gt_t87) (by decide +kernel) (gt_w_in (i := 98) (by decide +kernel)) (by decide +kernel) (gt_w_in (i := 990) (by decide +kernel)) (by decide +kernel) (by decide +kernel) (by decide +kernel) (fun _ => rfl) gt_r87
theorem gt_m88 : gt_mo 88 (⟨"GoalDesk$Pairs", "wake", "(I)V"⟩, prog_5_method_7_code, []) := gt_mo_plain (o := 4) (t := gt_t88) (by decide +kernel) (gt_w_in (i := 106) (by decide +kernel)) (by decide +kernel) (gt_w_in (i := 995) (by decide +kernel)) (by decide +kernel) (by decide +kernel) (by decide +kernel) (fun _ => rfl) gt_r88
theorem gt_m89 : gt_mo 89 (⟨"GoalDesk$Aparts", "hold", "(I)Z"⟩, prog_2_method_4_code, []) := gt_mo_plain (o := 1) (t := gt_t89) (by decide +kernel) (gt_w_in (i := 107) (by decide +kernel)) (by decide +kernel) (gt_w_in (i := 999) (by decide +kernel)) (by decide +kernel) (by decide +kernel) (by decide +kernel) (fun _ => rfl) gt_r89
theorem gt_m90 : gt_mo 90 (⟨"GoalDesk$Aparts", "settle", "(I)V"⟩, prog_2_method_5_code, []) := gt_mo_plain (o := 1) (t := gt_t90) (by decide +kernel) (gt_w_in (i := 107) (by decide +kernel)) (by decide +kernel) (gt_w_in (i := 1006) (by decide +kernel)) (by decide +kernel) (by decide +kernel) (by decide +kernel) (fun _ => rfl) gt_r90
theorem gt_m91 : gt_mo 91 (⟨"GoalDesk$Search", "putInFront", "()V"⟩, prog_7_method_12_code, []) := gt_mo_plain (o := 6) (t := gt_t91) (by decide +kernel) (gt_w_in (i := 101) (by decide +kernel)) (by decide +kernel) (gt_w_in (i := 1010) (by decide +kernel)) (by decide +kernel) (by decide +kernel) (by decide +kernel) (fun _ => rfl) gt_r91
theorem gt_m92 : gt_mo 92 (⟨"GoalDeskLaw", "next", "(LGoalDesk;[J)I"⟩, method_7_code, [(0, 8, 11, 28), (0, 8, 14, 15), (0, 8, 17, 30)]) := gt_mo_with (o := 12) (t := gt_t92) (by decide +kernel) (gt_w_in (i := 95) (by decide +kernel)) (by decide +kernel) (gt_w_in (i := 1028) (by decide +kernel)) (by decide +kernel) gt_h92 (by decide +kernel) (fun _ => rfl) gt_r92
theorem gt_m93 : gt_mo 93 (⟨"GoalDesk", "next", "()I"⟩, prog_1_method_6_code, []) := gt_mo_plain (o := 0) (t := gt_t93) (by decide +kernel) (gt_w_in (i := 96) (by decide +kernel)) (by decide +kernel) (gt_w_in (i := 1032) (by decide +kernel)) (by decide +kernel) (by decide +kernel) (by decide +kernel) (fun _ => rfl) gt_r93
theorem gt_m94 : gt_mo 94 (⟨"GoalDeskLaw", "letter", "(LGoalDesk;II[J)I"⟩, method_8_code, [(0, 10, 13, 13), (0, 10, 17, 28)]) := gt_mo_with (o := 12) (t := gt_t94) (by decide +kernel) (gt_w_in (i := 95) (by decide +kernel)) (by decide +kernel) (gt_w_in (i := 1035) (by decide +kernel)) (by decide +kernel) gt_h94 (by decide +kernel) (fun _ => rfl) gt_r94
theorem gt_m95 : gt_mo 95 (⟨"GoalDesk", "letter", "(II)I"⟩, prog_1_method_7_code, []) := gt_mo_plain (o := 0) (t := gt_t95) (by decide +kernel) (gt_w_in (i := 96) (by decide +kernel)) (by decide +kernel) (gt_w_in (i := 1039) (by decide +kernel)) (by decide +kernel) (by decide +kernel) (by decide +kernel) (fun _ => rfl) gt_r95
theorem gt_m96 : gt_mo 96 (⟨"GoalDesk$Writer", "write", "(I)I"⟩, prog_12_method_2_code, []) := gt_mo_plain (o := 11) (t := gt_t96) (by decide +kernel) (gt_w_in (i := 108) (by decide +kernel)) (by decide +kernel) (gt_w_in (i := 1043) (by decide +kernel)) (by decide +kernel) (by decide +kernel) (by decide +kernel) (fun _ => rfl) gt_r96
theorem gt_m97 : gt_mo 97 (⟨"GoalDesk$Writer", "writeTerm", "(II)V"⟩, prog_12_method_4_code, []) := gt_mo_plain (o := 11) (t := gt_t97) (by decide +kernel) (gt_w_in (i := 108) (by decide +kernel)) (by decide +kernel) (gt_w_in (i := 1047) (by decide +kernel)) (by decide +kernel) (by decide +kernel) (by decide +kernel) (fun _ => rfl) gt_r97
theorem gt_m98 : gt_mo 98 (⟨"GoalDesk$Writer", "put", "(C)V"⟩, prog_12_method_3_code, []) := gt_mo_plain (o := 11) (t := gt_t98) (by decide +kernel) (gt_w_in (i := 108) (by decide +kernel)) (by decide +kernel) (gt_w_in (i := 1052) (by decide +kernel)) (by decide +kernel) (by decide +kernel) (by decide +kernel) (fun _ => rfl) gt_r98
theorem gt_m99 : gt_mo 99 (⟨"GoalDeskLaw", "sleeping", "(LGoalDesk;I[J)I"⟩, method_9_code, [(0, 9, 12, 13)]) := gt_mo_with (o := 12) (t := gt_t99) (by decide +kernel) (gt_w_in (i := 95) (by decide +kernel)) (by decide +kernel) (gt_w_in (i := 1058) (by decide +kernel)) (by decide +kernel) gt_h99 (by decide +kernel) (fun _ => rfl) gt_r99
theorem gt_m100 : gt_mo 100 (⟨"GoalDesk", "sleeping", "(I)I"⟩, prog_1_method_8_code, []) := gt_mo_plain (o := 0) (t := gt_t100) (by decide +kernel) (gt_w_in (i := 96) (by decide +kernel)) (by decide +kernel) (gt_w_in (i := 1062) (by decide +kernel)) (by decide +kernel) (by decide +kernel) (by decide +kernel) (fun _ => rfl) gt_r100
theorem gt_m101 : gt_mo 101 (⟨"GoalDesk$Variables", "asleepOn", "(I)I"⟩, prog_11_method_10_code, []) := gt_mo_plain (o := 10) (t := gt_t101) (by decide +kernel) (gt_w_in (i := 98) (by decide +kernel)) (by decide +kernel) (gt_w_in (i := 1066) (by decide +kernel)) (by decide +kernel) (by decide +kernel) (by decide +kernel) (fun _ => rfl) gt_r101
theorem gt_m102 : gt_mo 102 (⟨"GoalDeskModel", "<init>", "()V"⟩, prog_14_method_1_code, []) := gt_mo_init (o := 13) (t := gt_t102) (by decide +kernel) (gt_w_in (i := 109) (by decide +kernel)) (by decide +kernel) (gt_w_in (i := 1072) (by decide +kernel)) (by decide +kernel) rfl (by decide +kernel) (fun _ => rfl) gt_r102
theorem gt_m103 : gt_mo 103 (⟨"GoalDeskModel", "thrown", "()I"⟩, prog_14_method_2_code, []) := gt_mo_plain (o := 13) (t := gt_t103) (by decide +kernel) (gt_w_in (i := 109) (by decide +kernel)) (by decide +kernel) (gt_w_in (i := 1271) (by decide +kernel)) (by decide +kernel) (by decide +kernel) (by decide +kernel) (fun _ => rfl) gt_r103
theorem gt_m104 : gt_mo 104 (⟨"GoalDeskModel", "type", "(J)I"⟩, prog_14_method_6_code, []) := gt_mo_plain (o := 13) (t := gt_t104) (by decide +kernel) (gt_w_in (i := 109) (by decide +kernel)) (by decide +kernel) (gt_w_in (i := 1275) (by decide +kernel)) (by decide +kernel) (by decide +kernel) (by decide +kernel) (fun _ => rfl) gt_r104
theorem gt_m105 : gt_mo 105 (⟨"GoalDeskModel", "in", "(III)Z"⟩, prog_14_method_3_code, []) := gt_mo_plain (o := 13) (t := gt_t105) (by decide +kernel) (gt_w_in (i := 109) (by decide +kernel)) (by decide +kernel) (gt_w_in (i := 1278) (by decide +kernel)) (by decide +kernel) (by decide +kernel) (by decide +kernel) (fun _ => rfl) gt_r105
theorem gt_m106 : gt_mo 106 (⟨"GoalDeskModel", "bad", "(Z)Z"⟩, prog_14_method_4_code, []) := gt_mo_plain (o := 13) (t := gt_t106) (by decide +kernel) (gt_w_in (i := 109) (by decide +kernel)) (by decide +kernel) (gt_w_in (i := 1282) (by decide +kernel)) (by decide +kernel) (by decide +kernel) (by decide +kernel) (fun _ => rfl) gt_r106
theorem gt_m107 : gt_mo 107 (⟨"GoalDeskModel", "fail", "(I)I"⟩, prog_14_method_5_code, []) := gt_mo_plain (o := 13) (t := gt_t107) (by decide +kernel) (gt_w_in (i := 109) (by decide +kernel)) (by decide +kernel) (gt_w_in (i := 1286) (by decide +kernel)) (by decide +kernel) (by decide +kernel) (by decide +kernel) (fun _ => rfl) gt_r107
theorem gt_m108 : gt_mo 108 (⟨"GoalDeskModel", "add", "()I"⟩, prog_14_method_12_code, []) := gt_mo_plain (o := 13) (t := gt_t108) (by decide +kernel) (gt_w_in (i := 109) (by decide +kernel)) (by decide +kernel) (gt_w_in (i := 1290) (by decide +kernel)) (by decide +kernel) (by decide +kernel) (by decide +kernel) (fun _ => rfl) gt_r108
theorem gt_m109 : gt_mo 109 (⟨"GoalDeskModel", "readClause", "()Z"⟩, prog_14_method_11_code, []) := gt_mo_plain (o := 13) (t := gt_t109) (by decide +kernel) (gt_w_in (i := 109) (by decide +kernel)) (by decide +kernel) (gt_w_in (i := 1294) (by decide +kernel)) (by decide +kernel) (by decide +kernel) (by decide +kernel) (fun _ => rfl) gt_r109
theorem gt_m110 : gt_mo 110 (⟨"GoalDeskModel", "readTerm", "(Z)Z"⟩, prog_14_method_9_code, []) := gt_mo_plain (o := 13) (t := gt_t110) (by decide +kernel) (gt_w_in (i := 109) (by decide +kernel)) (by decide +kernel) (gt_w_in (i := 1298) (by decide +kernel)) (by decide +kernel) (by decide +kernel) (by decide +kernel) (fun _ => rfl) gt_r110
theorem gt_m111 : gt_mo 111 (⟨"GoalDeskModel", "look", "()I"⟩, prog_14_method_7_code, []) := gt_mo_plain (o := 13) (t := gt_t111) (by decide +kernel) (gt_w_in (i := 109) (by decide +kernel)) (by decide +kernel) (gt_w_in (i := 1302) (by decide +kernel)) (by decide +kernel) (by decide +kernel) (by decide +kernel) (fun _ => rfl) gt_r111
theorem gt_m112 : gt_mo 112 (⟨"GoalDeskModel", "passes", "(I)Z"⟩, prog_14_method_8_code, []) := gt_mo_plain (o := 13) (t := gt_t112) (by decide +kernel) (gt_w_in (i := 109) (by decide +kernel)) (by decide +kernel) (gt_w_in (i := 1306) (by decide +kernel)) (by decide +kernel) (by decide +kernel) (by decide +kernel) (fun _ => rfl) gt_r112
theorem gt_m113 : gt_mo 113 (⟨"GoalDeskModel", "readGoals", "()Z"⟩, prog_14_method_10_code, []) := gt_mo_plain (o := 13) (t := gt_t113) (by decide +kernel) (gt_w_in (i := 109) (by decide +kernel)) (by decide +kernel) (gt_w_in (i := 1310) (by decide +kernel)) (by decide +kernel) (by decide +kernel) (by decide +kernel) (fun _ => rfl) gt_r113
theorem gt_m114 : gt_mo 114 (⟨"GoalDeskModel", "drop", "(I)V"⟩, prog_14_method_13_code, []) := gt_mo_plain (o := 13) (t := gt_t114) (by decide +kernel) (gt_w_in (i := 109) (by decide +kernel)) (by decide +kernel) (gt_w_in (i := 1314) (by decide +kernel)) (by decide +kernel) (by decide +kernel) (by decide +kernel) (fun _ => rfl) gt_r114
theorem gt_m115 : gt_mo 115 (⟨"GoalDeskModel", "ask", "()I"⟩, prog_14_method_42_code, []) := gt_mo_plain (o := 13) (t := gt_t115) (by decide +kernel) (gt_w_in (i := 109) (by decide +kernel)) (by decide +kernel) (gt_w_in (i := 1318) (by decide +kernel)) (by decide +kernel) (by decide +kernel) (by decide +kernel) (fun _ => rfl) gt_r115
theorem gt_m116 : gt_mo 116 (⟨"GoalDeskModel", "number", "()V"⟩, prog_14_method_15_code, []) := gt_mo_plain (o := 13) (t := gt_t116) (by decide +kernel) (gt_w_in (i := 109) (by decide +kernel)) (by decide +kernel) (gt_w_in (i := 1322) (by decide +kernel)) (by decide +kernel) (by decide +kernel) (by decide +kernel) (fun _ => rfl) gt_r116
theorem gt_m117 : gt_mo 117 (⟨"GoalDeskModel", "born", "()I"⟩, prog_14_method_16_code, []) := gt_mo_plain (o := 13) (t := gt_t117) (by decide +kernel) (gt_w_in (i := 109) (by decide +kernel)) (by decide +kernel) (gt_w_in (i := 1326) (by decide +kernel)) (by decide +kernel) (by decide +kernel) (by decide +kernel) (fun _ => rfl) gt_r117
theorem gt_m118 : gt_mo 118 (⟨"GoalDeskModel", "buildGoals", "(II)I"⟩, prog_14_method_21_code, []) := gt_mo_plain (o := 13) (t := gt_t118) (by decide +kernel) (gt_w_in (i := 109) (by decide +kernel)) (by decide +kernel) (gt_w_in (i := 1331) (by decide +kernel)) (by decide +kernel) (by decide +kernel) (by decide +kernel) (fun _ => rfl) gt_r118
theorem gt_m119 : gt_mo 119 (⟨"GoalDeskModel", "at", "(I)I"⟩, prog_14_method_14_code, []) := gt_mo_plain (o := 13) (t := gt_t119) (by decide +kernel) (gt_w_in (i := 109) (by decide +kernel)) (by decide +kernel) (gt_w_in (i := 1335) (by decide +kernel)) (by decide +kernel) (by decide +kernel) (by decide +kernel) (fun _ => rfl) gt_r119
theorem gt_m120 : gt_mo 120 (⟨"GoalDeskModel", "goal", "(IIIII)I"⟩, prog_14_method_20_code, []) := gt_mo_plain (o := 13) (t := gt_t120) (by decide +kernel) (gt_w_in (i := 109) (by decide +kernel)) (by decide +kernel) (gt_w_in (i := 1339) (by decide +kernel)) (by decide +kernel) (by decide +kernel) (by decide +kernel) (fun _ => rfl) gt_r120
theorem gt_m121 : gt_mo 121 (⟨"GoalDeskModel", "build", "()I"⟩, prog_14_method_18_code, []) := gt_mo_plain (o := 13) (t := gt_t121) (by decide +kernel) (gt_w_in (i := 109) (by decide +kernel)) (by decide +kernel) (gt_w_in (i := 1343) (by decide +kernel)) (by decide +kernel) (by decide +kernel) (by decide +kernel) (fun _ => rfl) gt_r121
theorem gt_m122 : gt_mo 122 (⟨"GoalDeskModel", "cell", "(I)I"⟩, prog_14_method_17_code, []) := gt_mo_plain (o := 13) (t := gt_t122) (by decide +kernel) (gt_w_in (i := 109) (by decide +kernel)) (by decide +kernel) (gt_w_in (i := 1347) (by decide +kernel)) (by decide +kernel) (by decide +kernel) (by decide +kernel) (fun _ => rfl) gt_r122
theorem gt_m123 : gt_mo 123 (⟨"GoalDeskModel", "hang", "(II)V"⟩, prog_14_method_19_code, []) := gt_mo_plain (o := 13) (t := gt_t123) (by decide +kernel) (gt_w_in (i := 109) (by decide +kernel)) (by decide +kernel) (gt_w_in (i := 1351) (by decide +kernel)) (by decide +kernel) (by decide +kernel) (by decide +kernel) (fun _ => rfl) gt_r123
theorem gt_m124 : gt_mo 124 (⟨"GoalDeskModel", "seek", "(Z)I"⟩, prog_14_method_41_code, []) := gt_mo_plain (o := 13) (t := gt_t124) (by decide +kernel) (gt_w_in (i := 109) (by decide +kernel)) (by decide +kernel) (gt_w_in (i := 1355) (by decide +kernel)) (by decide +kernel) (by decide +kernel) (by decide +kernel) (fun _ => rfl) gt_r124
theorem gt_m125 : gt_mo 125 (⟨"GoalDeskModel", "back", "()Z"⟩, prog_14_method_36_code, []) := gt_mo_plain (o := 13) (t := gt_t125) (by decide +kernel) (gt_w_in (i := 109) (by decide +kernel)) (by decide +kernel) (gt_w_in (i := 1359) (by decide +kernel)) (by decide +kernel) (by decide +kernel) (by decide +kernel) (fun _ => rfl) gt_r125
theorem gt_m126 : gt_mo 126 (⟨"GoalDeskModel", "nextFit", "(II)I"⟩, prog_14_method_33_code, []) := gt_mo_plain (o := 13) (t := gt_t126) (by decide +kernel) (gt_w_in (i := 109) (by decide +kernel)) (by decide +kernel) (gt_w_in (i := 1363) (by decide +kernel)) (by decide +kernel) (by decide +kernel) (by decide +kernel) (fun _ => rfl) gt_r126
theorem gt_m127 : gt_mo 127 (⟨"GoalDeskModel", "fits", "(II)Z"⟩, prog_14_method_32_code, []) := gt_mo_plain (o := 13) (t := gt_t127) (by decide +kernel) (gt_w_in (i := 109) (by decide +kernel)) (by decide +kernel) (gt_w_in (i := 1367) (by decide +kernel)) (by decide +kernel) (by decide +kernel) (by decide +kernel) (fun _ => rfl) gt_r127
theorem gt_m128 : gt_mo 128 (⟨"GoalDeskModel", "undo", "(I)V"⟩, prog_14_method_23_code, []) := gt_mo_plain (o := 13) (t := gt_t128) (by decide +kernel) (gt_w_in (i := 109) (by decide +kernel)) (by decide +kernel) (gt_w_in (i := 1371) (by decide +kernel)) (by decide +kernel) (by decide +kernel) (by decide +kernel) (fun _ => rfl) gt_r128
theorem gt_m129 : gt_mo 129 (⟨"GoalDeskModel", "take", "(IIII)Z"⟩, prog_14_method_34_code, []) := gt_mo_plain (o := 13) (t := gt_t129) (by decide +kernel) (gt_w_in (i := 109) (by decide +kernel)) (by decide +kernel) (gt_w_in (i := 1375) (by decide +kernel)) (by decide +kernel) (by decide +kernel) (by decide +kernel) (fun _ => rfl) gt_r129
theorem gt_m130 : gt_mo 130 (⟨"GoalDeskModel", "pair", "(II)V"⟩, prog_14_method_28_code, []) := gt_mo_plain (o := 13) (t := gt_t130) (by decide +kernel) (gt_w_in (i := 109) (by decide +kernel)) (by decide +kernel) (gt_w_in (i := 1379) (by decide +kernel)) (by decide +kernel) (by decide +kernel) (by decide +kernel) (fun _ => rfl) gt_r130
theorem gt_m131 : gt_mo 131 (⟨"GoalDeskModel", "unify", "(I)Z"⟩, prog_14_method_31_code, []) := gt_mo_plain (o := 13) (t := gt_t131) (by decide +kernel) (gt_w_in (i := 109) (by decide +kernel)) (by decide +kernel) (gt_w_in (i := 1383) (by decide +kernel)) (by decide +kernel) (by decide +kernel) (by decide +kernel) (fun _ => rfl) gt_r131
theorem gt_m132 : gt_mo 132 (⟨"GoalDeskModel", "same", "()Z"⟩, prog_14_method_29_code, []) := gt_mo_plain (o := 13) (t := gt_t132) (by decide +kernel) (gt_w_in (i := 109) (by decide +kernel)) (by decide +kernel) (gt_w_in (i := 1387) (by decide +kernel)) (by decide +kernel) (by decide +kernel) (by decide +kernel) (fun _ => rfl) gt_r132
theorem gt_m133 : gt_mo 133 (⟨"GoalDeskModel", "step", "()Z"⟩, prog_14_method_25_code, []) := gt_mo_plain (o := 13) (t := gt_t133) (by decide +kernel) (gt_w_in (i := 109) (by decide +kernel)) (by decide +kernel) (gt_w_in (i := 1391) (by decide +kernel)) (by decide +kernel) (by decide +kernel) (by decide +kernel) (fun _ => rfl) gt_r133
theorem gt_m134 : gt_mo 134 (⟨"GoalDeskModel", "value", "(I)I"⟩, prog_14_method_24_code, []) := gt_mo_plain (o := 13) (t := gt_t134) (by decide +kernel) (gt_w_in (i := 109) (by decide +kernel)) (by decide +kernel) (gt_w_in (i := 1395) (by decide +kernel)) (by decide +kernel) (by decide +kernel) (by decide +kernel) (fun _ => rfl) gt_r134
theorem gt_m135 : gt_mo 135 (⟨"GoalDeskModel", "tie", "(II)V"⟩, prog_14_method_26_code, []) := gt_mo_plain (o := 13) (t := gt_t135) (by decide +kernel) (gt_w_in (i := 109) (by decide +kernel)) (by decide +kernel) (gt_w_in (i := 1399) (by decide +kernel)) (by decide +kernel) (by decide +kernel) (by decide +kernel) (fun _ => rfl) gt_r135
theorem gt_m136 : gt_mo 136 (⟨"GoalDeskModel", "change", "(II)V"⟩, prog_14_method_22_code, []) := gt_mo_plain (o := 13) (t := gt_t136) (by decide +kernel) (gt_w_in (i := 109) (by decide +kernel)) (by decide +kernel) (gt_w_in (i := 1403) (by decide +kernel)) (by decide +kernel) (by decide +kernel) (by decide +kernel) (fun _ => rfl) gt_r136
theorem gt_m137 : gt_mo 137 (⟨"GoalDeskModel", "follow", "(III)V"⟩, prog_14_method_27_code, []) := gt_mo_plain (o := 13) (t := gt_t137) (by decide +kernel) (gt_w_in (i := 109) (by decide +kernel)) (by decide +kernel) (gt_w_in (i := 1407) (by decide +kernel)) (by decide +kernel) (by decide +kernel) (by decide +kernel) (fun _ => rfl) gt_r137
theorem gt_m138 : gt_mo 138 (⟨"GoalDeskModel", "test", "(II)I"⟩, prog_14_method_30_code, []) := gt_mo_plain (o := 13) (t := gt_t138) (by decide +kernel) (gt_w_in (i := 109) (by decide +kernel)) (by decide +kernel) (gt_w_in (i := 1411) (by decide +kernel)) (by decide +kernel) (by decide +kernel) (by decide +kernel) (fun _ => rfl) gt_r138
theorem gt_m139 : gt_mo 139 (⟨"GoalDeskModel", "perform", "(I)Z"⟩, prog_14_method_40_code, []) := gt_mo_plain (o := 13) (t := gt_t139) (by decide +kernel) (gt_w_in (i := 109) (by decide +kernel)) (by decide +kernel) (gt_w_in (i := 1415) (by decide +kernel)) (by decide +kernel) (by decide +kernel) (by decide +kernel) (fun _ => rfl) gt_r139
theorem gt_m140 : gt_mo 140 (⟨"GoalDeskModel", "call", "(II)Z"⟩, prog_14_method_35_code, []) := gt_mo_plain (o := 13) (t := gt_t140) (by decide +kernel) (gt_w_in (i := 109) (by decide +kernel)) (by decide +kernel) (gt_w_in (i := 1419) (by decide +kernel)) (by decide +kernel) (by decide +kernel) (by decide +kernel) (fun _ => rfl) gt_r140
theorem gt_m141 : gt_mo 141 (⟨"GoalDeskModel", "apart", "(III)Z"⟩, prog_14_method_37_code, []) := gt_mo_plain (o := 13) (t := gt_t141) (by decide +kernel) (gt_w_in (i := 109) (by decide +kernel)) (by decide +kernel) (gt_w_in (i := 1423) (by decide +kernel)) (by decide +kernel) (by decide +kernel) (by decide +kernel) (fun _ => rfl) gt_r141
theorem gt_m142 : gt_mo 142 (⟨"GoalDeskModel", "less", "(III)Z"⟩, prog_14_method_38_code, []) := gt_mo_plain (o := 13) (t := gt_t142) (by decide +kernel) (gt_w_in (i := 109) (by decide +kernel)) (by decide +kernel) (gt_w_in (i := 1427) (by decide +kernel)) (by decide +kernel) (by decide +kernel) (by decide +kernel) (fun _ => rfl) gt_r142
theorem gt_m143 : gt_mo 143 (⟨"GoalDeskModel", "sleep", "(III)Z"⟩, prog_14_method_39_code, []) := gt_mo_plain (o := 13) (t := gt_t143) (by decide +kernel) (gt_w_in (i := 109) (by decide +kernel)) (by decide +kernel) (gt_w_in (i := 1431) (by decide +kernel)) (by decide +kernel) (by decide +kernel) (by decide +kernel) (fun _ => rfl) gt_r143
theorem gt_m144 : gt_mo 144 (⟨"GoalDeskModel", "next", "()I"⟩, prog_14_method_43_code, []) := gt_mo_plain (o := 13) (t := gt_t144) (by decide +kernel) (gt_w_in (i := 109) (by decide +kernel)) (by decide +kernel) (gt_w_in (i := 1435) (by decide +kernel)) (by decide +kernel) (by decide +kernel) (by decide +kernel) (fun _ => rfl) gt_r144
theorem gt_m145 : gt_mo 145 (⟨"GoalDeskModel", "letter", "(II)I"⟩, prog_14_method_46_code, []) := gt_mo_plain (o := 13) (t := gt_t145) (by decide +kernel) (gt_w_in (i := 109) (by decide +kernel)) (by decide +kernel) (gt_w_in (i := 1439) (by decide +kernel)) (by decide +kernel) (by decide +kernel) (by decide +kernel) (fun _ => rfl) gt_r145
theorem gt_m146 : gt_mo 146 (⟨"GoalDeskModel", "write", "(I)V"⟩, prog_14_method_45_code, []) := gt_mo_plain (o := 13) (t := gt_t146) (by decide +kernel) (gt_w_in (i := 109) (by decide +kernel)) (by decide +kernel) (gt_w_in (i := 1443) (by decide +kernel)) (by decide +kernel) (by decide +kernel) (by decide +kernel) (fun _ => rfl) gt_r146
theorem gt_m147 : gt_mo 147 (⟨"GoalDeskModel", "put", "(I)V"⟩, prog_14_method_44_code, []) := gt_mo_plain (o := 13) (t := gt_t147) (by decide +kernel) (gt_w_in (i := 109) (by decide +kernel)) (by decide +kernel) (gt_w_in (i := 1448) (by decide +kernel)) (by decide +kernel) (by decide +kernel) (by decide +kernel) (fun _ => rfl) gt_r147
theorem gt_m148 : gt_mo 148 (⟨"GoalDeskModel", "sleeping", "(I)I"⟩, prog_14_method_47_code, []) := gt_mo_plain (o := 13) (t := gt_t148) (by decide +kernel) (gt_w_in (i := 109) (by decide +kernel)) (by decide +kernel) (gt_w_in (i := 1454) (by decide +kernel)) (by decide +kernel) (by decide +kernel) (by decide +kernel) (fun _ => rfl) gt_r148
theorem gt_m149 : gt_mo 149 (⟨"GoalDeskModel", "count", "(I)I"⟩, prog_14_method_48_code, []) := gt_mo_plain (o := 13) (t := gt_t149) (by decide +kernel) (gt_w_in (i := 109) (by decide +kernel)) (by decide +kernel) (gt_w_in (i := 1458) (by decide +kernel)) (by decide +kernel) (by decide +kernel) (by decide +kernel) (fun _ => rfl) gt_r149
theorem gt_mall : ai_allQ gt_mo 0 gt_Ml := ⟨gt_m0, gt_m1, gt_m2, gt_m3, gt_m4, gt_m5, gt_m6, gt_m7, gt_m8, gt_m9, gt_m10, gt_m11, gt_m12, gt_m13, gt_m14, gt_m15, gt_m16, gt_m17, gt_m18, gt_m19, gt_m20, gt_m21, gt_m22, gt_m23, gt_m24, gt_m25, gt_m26, gt_m27, gt_m28, gt_m29, gt_m30, gt_m31, gt_m32, gt_m33, gt_m34, gt_m35, gt_m36, gt_m37, gt_m38, gt_m39, gt_m40, gt_m41, gt_m42, gt_m43, gt_m44, gt_m45, gt_m46, gt_m47, gt_m48, gt_m49, gt_m50, gt_m51, gt_m52, gt_m53, gt_m54, gt_m55, gt_m56, gt_m57, gt_m58, gt_m59, gt_m60, gt_m61, gt_m62, gt_m63, gt_m64, gt_m65, gt_m66, gt_m67, gt_m68, gt_m69, gt_m70, gt_m71, gt_m72, gt_m73, gt_m74, gt_m75, gt_m76, gt_m77, gt_m78, gt_m79, gt_m80, gt_m81, gt_m82, gt_m83, gt_m84, gt_m85, gt_m86, gt_m87, gt_m88, gt_m89, gt_m90, gt_m91, gt_m92, gt_m93, gt_m94, gt_m95, gt_m96, gt_m97, gt_m98, gt_m99, gt_m100, gt_m101, gt_m102, gt_m103, gt_m104, gt_m105, gt_m106, gt_m107, gt_m108, gt_m109, gt_m110, gt_m111, gt_m112, gt_m113, gt_m114, gt_m115, gt_m116, gt_m117, gt_m118, gt_m119, gt_m120, gt_m121, gt_m122, gt_m123, gt_m124, gt_m125, gt_m126, gt_m127, gt_m128, gt_m129, gt_m130, gt_m131, gt_m132, gt_m133, gt_m134, gt_m135, gt_m136, gt_m137, gt_m138, gt_m139, gt_m140, gt_m141, gt_m142, gt_m143, gt_m144, gt_m145, gt_m146, gt_m147, gt_m148, gt_m149, trivial⟩
theorem gt_mok : ai_mok gt_Ts gt_cl gt_P gt_M gt_ex := by
  intro mi y cc hh h
  have := ai_allQ_at gt_mall h
  rw [Nat.zero_add] at this
  exact this
