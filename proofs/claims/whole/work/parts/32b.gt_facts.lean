/-! What the links say. -/
theorem gt_fB_ok {own : Nat → String} {q : Nat × Nat × Nat × Nat × Nat × String × String × Nat} (h : gt_fB own q = true) : ai_fok gt_Ts gt_cl (own q.1) q.2.1 q.2.2.1 q.2.2.2.1 := by
  unfold gt_fB at h
  split at h
  · rename_i C T N hc
    simp only [Bool.and_eq_true, Bool.or_eq_true, decide_eq_true_eq] at h
    obtain ⟨h1, h2, h3⟩ := h
    refine ⟨C, T, N, q.2.2.2.2.2.1, hc, h1, ?_, ?_⟩
    · split at h2
      · exact .inl (gt_w_in h2)
      · exact .inr ⟨_, gt_w_in h2⟩
    · rcases h3 with h3 | h3
      · exact .inl h3
      · exact .inr (gt_w_in h3)
  · cases h
theorem gt_pB_ok {own : Nat → String} {q : Nat × Nat × Nat × Nat × Nat × String × String × Nat} (h : gt_fB own q = true) (g : gt_pB q = true) (mn : String) : ai_pok gt_Ts gt_cl (own q.1) mn q.2.1 q.2.2.1 q.2.2.2.1 := by
  obtain ⟨C, T, N, ref, h1, h2, h3, h4⟩ := gt_fB_ok h
  unfold gt_pB at g
  rw [h1] at g
  have g : (!(T q.2.2.2.1).2.2.2) = true := g
  exact ⟨C, T, N, ref, h1, h2, h4, .inl ⟨by simpa using g, h3⟩⟩
theorem gt_pfB_ok {own : Nat → String} {q : Nat × Nat × Nat × Nat × Nat × String × String × Nat} (h : gt_fB own q = true) (g : gt_pfB own q = true) : ai_pok gt_Ts gt_cl (own q.1) "<init>" q.2.1 q.2.2.1 q.2.2.2.1 := by
  unfold gt_fB at h
  unfold gt_pfB at g
  split at h
  · rename_i C T N hc
    rw [hc] at g
    simp only [Bool.and_eq_true, Bool.or_eq_true, decide_eq_true_eq] at h g
    obtain ⟨h1, h2, h3⟩ := h
    obtain ⟨g1, g2, g3⟩ := g
    rw [if_pos g3] at h2
    refine ⟨C, T, N, q.2.2.2.2.2.1, hc, h1, ?_, .inr ⟨g1, rfl, g2, gt_w_in h2⟩⟩
    rcases h3 with h3 | h3
    · exact .inl h3
    · exact .inr (gt_w_in h3)
  · cases h
theorem gt_map {α β : Type} {l : List α} {f : α → β} {Q : β → Prop} {b : α → Bool} (h : l.all b = true) (k : ∀ x, b x = true → Q (f x)) : ∀ q ∈ l.map f, Q q := by
  intro q hq
  obtain ⟨x, hx, rfl⟩ := List.mem_map.mp hq
  exact k x (List.all_eq_true.mp h x hx)
theorem gt_f0 : ∀ q ∈ gt_Fk 0, ai_fok gt_Ts gt_cl (gt_own q.1) q.2.1 q.2.2.1 q.2.2.2 := gt_map (Q := fun (q : Nat × Nat × Nat × Nat) => ai_fok gt_Ts gt_cl (gt_own q.1) q.2.1 q.2.2.1 q.2.2.2) gt_a0 fun x hx => gt_fB_ok hx
theorem gt_f1 : ∀ q ∈ gt_Fk 1, ∀ mn, ai_pok gt_Ts gt_cl (gt_own q.1) mn q.2.1 q.2.2.1 q.2.2.2 := gt_map (Q := fun (q : Nat × Nat × Nat × Nat) => ∀ mn, ai_pok gt_Ts gt_cl (gt_own q.1) mn q.2.1 q.2.2.1 q.2.2.2) gt_a1 fun x hx mn => by
  simp only [Bool.and_eq_true] at hx
  exact gt_pB_ok hx.1 hx.2 mn
theorem gt_f2 : ∀ q ∈ gt_Fk 2, ai_pok gt_Ts gt_cl (gt_own q.1) "<init>" q.2.1 q.2.2.1 q.2.2.2 := gt_map (Q := fun (q : Nat × Nat × Nat × Nat) => ai_pok gt_Ts gt_cl (gt_own q.1) "<init>" q.2.1 q.2.2.1 q.2.2.2) gt_a2 fun x hx => by
  simp only [Bool.and_eq_true] at hx
  exact gt_pfB_ok hx.1 hx.2
theorem gt_zero_ok {ty : FieldType} (h : gt_sim ty = true) : ai_v (fun _ => 0) (gt_zero ty) = defaultValue ty ∧ ∀ a, gt_zero ty ≠ .inr (.inr (some a)) := by
  cases ty <;> first | exact ⟨rfl, fun a z => by simp [gt_zero] at z⟩ | (cases h; done)
theorem gt_f3 : ∀ q ∈ gt_Fk 3, ∃ (C : String) (T : u_T) (N : Nat), gt_cl[q.2.2.1]? = some (C, T, N) ∧ Cond.classLink (gt_own q.1) q.2.1 C ∈ gt_Ts ∧ Cond.instantiable C N ∈ gt_Ts ∧ Cond.initialized C ∈ gt_Ts ∧ (gt_dfl q.2.2.1).length = N ∧ ∀ j, j < N → ai_v (fun _ => 0) ((gt_dfl q.2.2.1).getD j (.inr (.inr none))) = defaultValue (gt_tyF q.2.2.1 j) ∧ ∀ a, (gt_dfl q.2.2.1).getD j (.inr (.inr none)) ≠ .inr (.inr (some a)) :=
  gt_map (Q := fun (q : Nat × Nat × Nat × Nat) => ∃ (C : String) (T : u_T) (N : Nat), gt_cl[q.2.2.1]? = some (C, T, N) ∧ Cond.classLink (gt_own q.1) q.2.1 C ∈ gt_Ts ∧ Cond.instantiable C N ∈ gt_Ts ∧ Cond.initialized C ∈ gt_Ts ∧ (gt_dfl q.2.2.1).length = N ∧ ∀ j, j < N → ai_v (fun _ => 0) ((gt_dfl q.2.2.1).getD j (.inr (.inr none))) = defaultValue (gt_tyF q.2.2.1 j) ∧ ∀ a, (gt_dfl q.2.2.1).getD j (.inr (.inr none)) ≠ .inr (.inr (some a))) gt_a3 fun x hx => by
    simp only [gt_nB, Bool.and_eq_true, decide_eq_true_eq] at hx
    obtain ⟨hlt, hx⟩ := hx
    split at hx
    · rename_i C T N hc
      simp only [Bool.and_eq_true] at hx
      have hd := List.all_eq_true.mp gt_dl _ (List.mem_range.mpr hlt)
      rw [hc] at hd
      simp only [Bool.and_eq_true, decide_eq_true_eq] at hd
      refine ⟨C, T, N, hc, gt_w_in hx.1, gt_w_in hx.2.1, gt_w_in hx.2.2, hd.1, fun j hj => ?_⟩
      have hz := List.all_eq_true.mp (List.all_eq_true.mp gt_dzero _ (List.mem_range.mpr hlt)) j (List.mem_range.mpr (by omega))
      simp only [Bool.and_eq_true, decide_eq_true_eq] at hz
      have := gt_zero_ok hz.1
      rw [← hz.2] at this
      exact this
    · cases hx
theorem gt_f4 : ∀ q ∈ gt_Fk 4, ∀ at_, ai_atn at_ = q.1 → gt_tyL.getD q.2.1 .float = newarray.typeOf at_ ∧ newarray.typeOf at_ ≠ .float ∧ newarray.typeOf at_ ≠ .double ∧ Cond.arrayClass (newarray.typeOf at_) ∈ gt_Ts := by
  have i0 : Cond.arrayClass .int ∈ gt_Ts := gt_w_in (i := 159) (by decide +kernel)
  have i1 : Cond.arrayClass .char ∈ gt_Ts := gt_w_in (i := 158) (by decide +kernel)
  have i2 : Cond.arrayClass .boolean ∈ gt_Ts := gt_w_in (i := 391) (by decide +kernel)
  have i3 : Cond.arrayClass .long ∈ gt_Ts := gt_w_in (i := 1460) (by decide +kernel)
  intro q hq at_ h
  have hq : q = (0, 0, 0, 0) ∨ q = (1, 1, 0, 0) ∨ q = (2, 2, 0, 0) ∨ q = (3, 3, 0, 0) := by simpa [gt_Fk] using hq
  rcases hq with rfl | rfl | rfl | rfl <;> cases at_ <;> first | (simp [ai_atn] at h; done) | exact ⟨rfl, by decide, by decide, i0⟩ | exact ⟨rfl, by decide, by decide, i1⟩ | exact ⟨rfl, by decide, by decide, i2⟩ | exact ⟨rfl, by decide, by decide, i3⟩
theorem gt_f5 : ∀ q ∈ gt_Fk 5, ∃ C, gt_tyL.getD q.2.2.1 .float = .object C ∧ Cond.classLink (gt_own q.1) q.2.1 C ∈ gt_Ts ∧ Cond.arrayOver (.object C) ∈ gt_Ts := gt_map (Q := fun (q : Nat × Nat × Nat × Nat) => ∃ C, gt_tyL.getD q.2.2.1 .float = .object C ∧ Cond.classLink (gt_own q.1) q.2.1 C ∈ gt_Ts ∧ Cond.arrayOver (.object C) ∈ gt_Ts) gt_a5 fun x hx => by
  unfold gt_anB at hx
  split at hx
  · rename_i C hC
    simp only [Bool.and_eq_true, Bool.or_eq_true] at hx
    refine ⟨C, hC, gt_w_in hx.1, ?_⟩
    rcases hx.2 with z | z
    · exact gt_w_in z
    · exact gt_w_in z
  · cases hx
theorem gt_f6 : ∀ q ∈ gt_Fk 6, ∃ (C : String) (T : u_T) (N : Nat), gt_cl[q.2.2.1]? = some (C, T, N) ∧ Cond.classLink (gt_own q.1) q.2.1 C ∈ gt_Ts := gt_map (Q := fun (q : Nat × Nat × Nat × Nat) => ∃ (C : String) (T : u_T) (N : Nat), gt_cl[q.2.2.1]? = some (C, T, N) ∧ Cond.classLink (gt_own q.1) q.2.1 C ∈ gt_Ts) gt_a6 fun x hx => by
  unfold gt_ckB at hx
  split at hx
  · rename_i C T N hc
    exact ⟨C, T, N, hc, gt_w_in hx⟩
  · cases hx
theorem gt_FH : ai_FH gt_Ts gt_cl gt_tyL gt_tyF gt_dfl gt_own gt_Fk :=
  ⟨gt_f0, gt_f1, gt_f2, gt_f3, gt_f4, gt_f5, gt_f6, gt_map (Q := fun (q : Nat × Nat × Nat × Nat) => Cond.constant (gt_own q.1) q.2.1 (Int32.ofNat q.2.2.1) ∈ gt_Ts) gt_a7 fun x hx => gt_w_in hx, gt_map (Q := fun (q : Nat × Nat × Nat × Nat) => Cond.constantLong (gt_own q.1) q.2.1 (Int64.ofNat q.2.2.1) ∈ gt_Ts) gt_a8 fun x hx => gt_w_in hx⟩
theorem gt_cB_ok {q : Nat × Nat × Nat × Nat × Nat × Nat × Nat × String × Nat × Nat} (h : gt_cB q = true) : ∃ (y' : MethodName) (cc' : ByteArray) (hh' : List (Nat × Nat × Nat × Nat)) (n : Nat), gt_M q.2.2.2.1 = some (y', cc', hh') ∧ (parseMethodDescriptor y'.desc).map (fun d => d.parameters.length) = some n ∧ ai_iok gt_Ts gt_cl (gt_own q.1) y' n (ai_ci q.2.2.1 q.2.1) [q.2.2.2.1, q.2.2.2.2.1, q.2.2.2.2.2.1] := by
  obtain ⟨o, idx, kd, mi, na, ci, i, host, i2, i3⟩ := q
  unfold gt_cB at h
  simp only at h ⊢
  split at h
  · rename_i y cc hh hM
    simp only [Bool.and_eq_true] at h
    obtain ⟨h1, h2⟩ := h
    have hl : ai_lnk gt_Ts (gt_own o) idx y := by
      split at h1
      · exact .inl (gt_w_in h1)
      · exact .inr ⟨_, gt_w_in h1⟩
    split at h2
    · rename_i n hn
      refine ⟨y, cc, hh, n, hM, hn, ?_⟩
      split at h2
      · simp only [Bool.and_eq_true] at h2
        obtain ⟨a1, a2, a3⟩ := h2
        split at a3
        · rename_i C T N hc
          exact ⟨Nat.eq_of_beq_eq_true a1, gt_w_in a2, hl, C, T, N, hc, gt_w_in a3⟩
        · cases a3
      · simp only [Bool.and_eq_true] at h2
        obtain ⟨a1, a2, a3⟩ := h2
        exact ⟨Nat.eq_of_beq_eq_true a1, of_decide_eq_true a3, gt_w_in a2, hl⟩
      · simp only [Bool.and_eq_true] at h2
        obtain ⟨a1, a2⟩ := h2
        exact ⟨Nat.eq_of_beq_eq_true a1, gt_w_in a2, hl⟩
      · cases h2
    · cases h2
  · cases h
theorem gt_f13 : ∀ q ∈ gt_Fk 13, ∃ ns : List String, ai_tok gt_Ts (gt_own q.1) (gt_ex q.2.2.2) ns q.2.1 q.2.2.1 ∧ ns.length ≤ 6 := gt_map (Q := fun (q : Nat × Nat × Nat × Nat) => ∃ ns : List String, ai_tok gt_Ts (gt_own q.1) (gt_ex q.2.2.2) ns q.2.1 q.2.2.1 ∧ ns.length ≤ 6) gt_a13 fun x hx => by
  simp only [gt_tB, Bool.and_eq_true] at hx
  refine ⟨gt_ns, ⟨hx.1, fun n hn => List.all_eq_true.mp gt_nsf n hn, fun w hw => ?_⟩, by decide⟩
  have := List.all_eq_true.mp hx.2 w hw
  simp only [gt_in, Bool.and_eq_true] at this
  exact ⟨by simpa using this.1, this.2⟩
theorem gt_FO : ai_FO gt_Ts gt_cl gt_M gt_ex gt_own gt_Fk gt_C6 := by
  have w1 : Cond.instanceMethod Lib.objectInit ∈ gt_Ts := gt_w_in (i := 131) (by decide +kernel)
  have w2 : Cond.code Lib.objectInit ⟨#[0xb1]⟩ 1 none ∈ gt_Ts := gt_w_in (i := 132) (by decide +kernel)
  have w3 : Cond.static Lib.Math.max.name ∈ gt_Ts := gt_w_in (i := 763) (by decide +kernel)
  have w4 : Cond.initialized "java/lang/Math" ∈ gt_Ts := gt_w_in (i := 116) (by decide +kernel)
  have w5 : Cond.code Lib.Math.max.name Lib.Math.max.code 2 (some .int) ∈ gt_Ts := gt_w_in (i := 764) (by decide +kernel)
  have w6 : Cond.static Lib.Math.min.name ∈ gt_Ts := gt_w_in (i := 699) (by decide +kernel)
  have w7 : Cond.code Lib.Math.min.name Lib.Math.min.code 2 (some .int) ∈ gt_Ts := gt_w_in (i := 700) (by decide +kernel)
  have w8 : Cond.declares ai_gc ∈ gt_Ts := gt_w_in (i := 1466) (by decide +kernel)
  have w9 : Cond.selects "[Ljava/lang/Object;" ai_gc ai_gc ∈ gt_Ts := gt_w_in (i := 1465) (by decide +kernel)
  have w10 : Cond.instanceMethod ai_gc ∈ gt_Ts := gt_w_in (i := 773) (by decide +kernel)
  have w11 : Cond.native ai_gc ∈ gt_Ts := gt_w_in (i := 793) (by decide +kernel)
  have w12 : Cond.native arraycopyName ∈ gt_Ts := gt_w_in (i := 703) (by decide +kernel)
  have w13 : Cond.static arraycopyName ∈ gt_Ts := gt_w_in (i := 702) (by decide +kernel)
  have w14 : Cond.initialized "java/lang/System" ∈ gt_Ts := gt_w_in (i := 117) (by decide +kernel)
  refine ⟨?_, gt_f13, ?_, ?_, ?_, ?_, ?_, ?_, ?_, ?_, ?_, ?_⟩
  · exact gt_map (Q := fun (q : Nat × Nat × Nat × Nat × Nat × Nat) => ∃ (y' : MethodName) (cc' : ByteArray) (hh' : List (Nat × Nat × Nat × Nat)) (n : Nat), gt_M q.2.2.2.1 = some (y', cc', hh') ∧ (parseMethodDescriptor y'.desc).map (fun d => d.parameters.length) = some n ∧ ai_iok gt_Ts gt_cl (gt_own q.1) y' n (ai_ci q.2.2.1 q.2.1) [q.2.2.2.1, q.2.2.2.2.1, q.2.2.2.2.2]) gt_a9 fun x hx => gt_cB_ok hx
  · exact gt_map (Q := fun (q : Nat × Nat × Nat × Nat) => q.2.2.1 = 1 → Cond.methodLink (gt_own q.1) q.2.1 Lib.objectInit ∈ gt_Ts ∧ Cond.instanceMethod Lib.objectInit ∈ gt_Ts ∧ Cond.code Lib.objectInit ⟨#[0xb1]⟩ 1 none ∈ gt_Ts) gt_a10 fun x hx _ => by
      simp only [Bool.and_eq_true] at hx
      exact ⟨gt_w_in hx.1, w1, w2⟩
  · exact gt_map (Q := fun (q : Nat × Nat × Nat × Nat) => q.2.2.1 = 1) gt_a10 fun x hx => by
      simp only [Bool.and_eq_true] at hx
      exact of_decide_eq_true hx.2
  · exact gt_map (Q := fun (q : Nat × Nat × Nat × Nat) => q.2.2.1 = 2 → Cond.methodLink (gt_own q.1) q.2.1 Lib.Math.max.name ∈ gt_Ts ∧ Cond.static Lib.Math.max.name ∈ gt_Ts ∧ Cond.initialized "java/lang/Math" ∈ gt_Ts ∧ Cond.code Lib.Math.max.name Lib.Math.max.code 2 (some .int) ∈ gt_Ts) gt_a11 fun x hx _ => by
      simp only [Bool.and_eq_true] at hx
      exact ⟨gt_w_in hx.1, w3, w4, w5⟩
  · exact gt_map (Q := fun (q : Nat × Nat × Nat × Nat) => q.2.2.1 = 2) gt_a11 fun x hx => by
      simp only [Bool.and_eq_true] at hx
      exact of_decide_eq_true hx.2
  · exact gt_map (Q := fun (q : Nat × Nat × Nat × Nat) => q.2.2.1 = 2 → Cond.methodLink (gt_own q.1) q.2.1 Lib.Math.min.name ∈ gt_Ts ∧ Cond.static Lib.Math.min.name ∈ gt_Ts ∧ Cond.initialized "java/lang/Math" ∈ gt_Ts ∧ Cond.code Lib.Math.min.name Lib.Math.min.code 2 (some .int) ∈ gt_Ts) gt_a12 fun x hx _ => by
      simp only [Bool.and_eq_true] at hx
      exact ⟨gt_w_in hx.1, w6, w4, w7⟩
  · exact gt_map (Q := fun (q : Nat × Nat × Nat × Nat) => q.2.2.1 = 2) gt_a12 fun x hx => by
      simp only [Bool.and_eq_true] at hx
      exact of_decide_eq_true hx.2
  · exact gt_map (Q := fun (q : Nat × Nat × Nat × Nat) => q.2.2.1 = 0 → Cond.fieldLink (gt_own q.1) q.2.1 "java/util/ArrayList" "DEFAULTCAPACITY_EMPTY_ELEMENTDATA" "[Ljava/lang/Object;" ∈ gt_Ts) gt_a14 fun x hx hk => by
      have hk : x.2.2.1 = 0 := hk
      rw [if_pos hk] at hx
      exact gt_w_in hx
  · exact gt_map (Q := fun (q : Nat × Nat × Nat × Nat) => q.2.2.1 = 1 → Cond.classLink (gt_own q.1) q.2.1 "[Ljava/lang/Object;" ∈ gt_Ts) gt_a14 fun x hx hk => by
      have hk : x.2.2.1 = 1 := hk
      rw [if_neg (by omega), if_pos hk] at hx
      exact gt_w_in hx
  · exact gt_map (Q := fun (q : Nat × Nat × Nat × Nat) => q.2.2.1 = 2 → Cond.methodLink (gt_own q.1) q.2.1 ai_gc ∈ gt_Ts ∧ Cond.declares ai_gc ∈ gt_Ts ∧ Cond.selects "[Ljava/lang/Object;" ai_gc ai_gc ∈ gt_Ts ∧ Cond.instanceMethod ai_gc ∈ gt_Ts ∧ Cond.native ai_gc ∈ gt_Ts) gt_a14 fun x hx hk => by
      have hk : x.2.2.1 = 2 := hk
      rw [if_neg (by omega), if_neg (by omega), if_pos hk] at hx
      exact ⟨gt_w_in hx, w8, w9, w10, w11⟩
  · exact gt_map (Q := fun (q : Nat × Nat × Nat × Nat) => q.2.2.1 = 5 → Cond.methodLink (gt_own q.1) q.2.1 arraycopyName ∈ gt_Ts ∧ Cond.native arraycopyName ∈ gt_Ts ∧ Cond.static arraycopyName ∈ gt_Ts ∧ Cond.initialized "java/lang/System" ∈ gt_Ts) gt_a14 fun x hx hk => by
      have hk : x.2.2.1 = 5 := hk
      rw [if_neg (by omega), if_neg (by omega), if_neg (by omega)] at hx
      exact ⟨gt_w_in hx, w12, w13, w14⟩
theorem gt_clok : ai_clok gt_Ts gt_cl gt_tyF := by
  intro ci C T N hc
  have hlt : ci < 14 := (List.getElem?_eq_some_iff.mp hc).1
  have h := List.all_eq_true.mp gt_lay ci (List.mem_range.mpr hlt)
  rw [hc] at h
  have h : (List.range N).all (fun k => gt_w ((gt_layI.getD ci []).getD k 9999) (u_lay C T k) && (decide (parseFieldDescriptor (T k).2.2.1 = some (gt_tyF ci k)) && (List.range N).all fun b => Nat.beq k b || decide ((T k).2.1 ≠ (T b).2.1))) = true := h
  have hk : ∀ k, k < N → _ := fun k hk => List.all_eq_true.mp h k (List.mem_range.mpr hk)
  refine ⟨fun w hw => ?_, fun k hkN => ?_, fun a ha b hb hab => ?_⟩
  · obtain ⟨k, hkr, rfl⟩ := List.mem_map.mp hw
    have := hk k (List.mem_range.mp hkr)
    simp only [Bool.and_eq_true] at this
    exact gt_w_in this.1
  · have := hk k hkN
    simp only [Bool.and_eq_true] at this
    exact of_decide_eq_true this.2.1
  · have := hk a ha
    simp only [Bool.and_eq_true] at this
    have := List.all_eq_true.mp this.2.2 b (List.mem_range.mpr hb)
    simp only [Bool.or_eq_true] at this
    rcases this with z | z
    · exact absurd (Nat.eq_of_beq_eq_true z) hab
    · exact of_decide_eq_true z
theorem gt_aok : ai_aok gt_Ts gt_cl gt_tyL gt_asg := by
  have c1 : Cond.castable "GoalDesk$ToDo" "java/lang/Object" ∈ gt_Ts := gt_w_in (i := 1478) (by decide +kernel)
  have c2 : Cond.castable "GoalDesk$Choice" "java/lang/Object" ∈ gt_Ts := gt_w_in (i := 1479) (by decide +kernel)
  intro t cj h
  simp only [gt_asg, Bool.or_eq_true, Bool.and_eq_true, Nat.beq_eq] at h
  rcases h with ⟨rfl, rfl⟩ | ⟨rfl, rfl | rfl⟩
  · exact ⟨_, _, rfl, rfl, .inl rfl⟩
  · exact ⟨_, _, rfl, rfl, .inr c1⟩
  · exact ⟨_, _, rfl, rfl, .inr c2⟩
theorem gt_Tgood : ∀ w ∈ gt_Ts, ai_good w = true := by
  intro w hw
  rcases List.mem_append.mp hw with z | z
  · exact (List.mem_filter.mp z).2
  · have hx : gt_X.all ai_good = true := by decide +kernel
    exact List.all_eq_true.mp hx w z

