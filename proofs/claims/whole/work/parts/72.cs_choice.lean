/-! A choice is left. -/
section CSC
variable {L : Nat} {xs : Nat → Int32} {S : ty_S} {D1 D2 : ai_A} {n1 c1 n2 c2 : Nat}
/-- what it comes to: (52, k) holds what is to be restored -/
def cs_c (S S' : ty_S) (k : Nat) (call clause : Int) (D1 : ai_A) (n1 c1 : Nat) (D2 : ai_A) (n2 c2 : Nat) (D2' : ai_A) (n2' c2' : Nat) : Prop := ty_st S' ∧ cs_L S' D1 n1 c1 D2' n2' c2' ∧ (n2 ≤ n2' ∧ k + 1 ≤ n2' ∧ (n2' = n2 ∨ n2' = k + 1)) ∧ cs_f S S' ∧ (∀ j, S'.1 (17, 0) j = if j = 11 then (k : Int) + 1 else S.1 (17, 0) j) ∧ (∀ j, S'.2.1 (17, 0) j = S.2.1 (17, 0) j) ∧
  (S'.1 (52, k) 0 = call ∧ S'.1 (52, k) 1 = clause ∧ S'.2.1 (52, k) 2 = S.2.1 (17, 0) 9 ∧ S'.1 (52, k) 3 = S.1 (17, 0) 8 ∧ S'.1 (52, k) 4 = S.1 (13, 0) 4 ∧ S'.1 (52, k) 5 = S.1 (13, 0) 7 ∧ S'.1 (52, k) 6 = S.1 (13, 0) 10 ∧ S'.1 (52, k) 7 = S.1 (13, 0) 13 ∧ S'.1 (52, k) 8 = S.1 (39, 0) 5 ∧ S'.1 (52, k) 9 = S.1 (39, 0) 7) ∧
  (∀ i, i < k → ∀ j, S'.1 (52, i) j = S.1 (52, i) j ∧ S'.2.1 (52, i) j = S.2.1 (52, i) j) ∧ (∀ i j, S'.1 (49, i) j = S.1 (49, i) j ∧ S'.2.1 (49, i) j = S.2.1 (49, i) j) ∧ ∀ K n th, cs_k S K n1 c1 n2 c2 n th → cs_k S' K n1 c1 n2' c2' n th
theorem cs_choice_tail (d : Nat) (hS : ty_st S) (hL : cs_L S D1 n1 c1 D2 n2 c2) {k : Nat} (hk : S.1 (17, 0) 11 = k) (hlt : k < n2) {call clause : Int} :
    ty_W L xs (d + 3) 68 29 [some (.inr (.inr (some (17, 0)))), some (.inl (ty_J call)), some (.inl (ty_J clause)), none] [] S (ty_oV fun S' => cs_c S S' k call clause D1 n1 c1 D2 n2 c2 D2 n2 c2) := by
  obtain ⟨l1, l2, l3, l4, l5⟩ := hL
  have hp : ((52, k) : ai_A).2 < S.2.2.2.2.2.2.1 ((52, k) : ai_A).1 := by
    show k < S.2.2.2.2.2.2.1 52
    omega
  have hsk : ty_sk ((52, k) : ai_A).1 = (1, 12) := by
    show ty_sk 52 = (1, 12)
    decide +kernel
  have hne : (¬ ((13, 0) : ai_A) = (52, k)) ∧ (¬ ((39, 0) : ai_A) = (52, k)) ∧ (¬ ((17, 0) : ai_A) = (52, k)) ∧ ¬ ((52, k) : ai_A) = (17, 0) := by simp
  refine ty_aload_n (pc := 29) (i := 0) (ks := []) (by decide +kernel) rfl ?_
  refine ty_getS (b := (36, 0)) (pc := 30) (idx := 25) (ci := 5) (f := 10) (by decide +kernel) (by first | rfl | assumption) rfl (by first | exact hS.1 _ _ rfl | assumption) (by first | exact hS.2.2 _ _ _ _ rfl | assumption) ?_
  refine ty_aload_n (pc := 33) (i := 0) (ks := []) (by decide +kernel) rfl ?_
  refine ty_getI (pc := 34) (idx := 28) (ci := 5) (f := 11) (by decide +kernel) (by first | rfl | assumption) rfl (by first | exact hS.1 _ _ rfl | assumption) (fun v hv => ?_)
  subst hv
  -- at 37: .invokevirtual 114
  rw [hk]
  refine ty_callv (pc := 37) (idx := 114) (m := 56) (n := 2) (c := 6) (vs := [_]) (r := []) (by decide +kernel) rfl rfl (Nat.le_of_ble_eq_true rfl) (by first | rfl | assumption) (by first | exact hS.1 _ _ rfl | assumption) (jd_get d (by decide +kernel) (hS.1 _ _ rfl) l2 hlt) ?_
  rintro _ S1 ⟨z, rfl, rfl, rfl⟩
  refine ty_KR ?_
  refine ty_cast (pc := 40) (idx := 118) (ci := 12) (by decide +kernel) (by first | rfl | assumption) (by first | exact hS.1 _ _ rfl | assumption) ?_
  refine ty_astore_n (pc := 43) (i := 3) (ks := []) (ls' := [_, _, _, _]) (by decide +kernel) rfl ?_
  refine ty_aload_n (pc := 44) (i := 0) (ks := []) (by decide +kernel) rfl ?_
  refine ty_dup (pc := 45) (ks := []) (by decide +kernel) rfl ?_
  refine ty_getI (pc := 46) (idx := 28) (ci := 5) (f := 11) (by decide +kernel) (by first | rfl | assumption) rfl (by first | exact hS.1 _ _ rfl | assumption) (fun v hv => ?_)
  subst hv
  refine ty_iconst (pc := 49) (n := 1) (ks := []) (by decide +kernel) ?_
  refine ty_iadd (pc := 50) (ks := []) (by decide +kernel) ?_
  refine ty_putI (pc := 51) (idx := 28) (ci := 5) (f := 11) (by decide +kernel) (by first | rfl | assumption) rfl rfl (by first | exact hS.1 _ _ rfl | assumption) ?_
  refine ty_aload_n (pc := 54) (i := 3) (ks := []) (by decide +kernel) rfl ?_
  refine ty_iload_n (pc := 55) (i := 1) (ks := []) (by decide +kernel) rfl ?_
  refine ty_putI (pc := 56) (idx := 230) (ci := 12) (f := 0) (by decide +kernel) (by first | rfl | assumption) rfl rfl (by first | exact hS.1 _ _ rfl | assumption) ?_
  refine ty_aload_n (pc := 59) (i := 3) (ks := []) (by decide +kernel) rfl ?_
  refine ty_iload_n (pc := 60) (i := 2) (ks := []) (by decide +kernel) rfl ?_
  refine ty_putI (pc := 61) (idx := 233) (ci := 12) (f := 1) (by decide +kernel) (by first | rfl | assumption) rfl rfl (by first | exact hS.1 _ _ rfl | assumption) ?_
  refine ty_aload_n (pc := 64) (i := 3) (ks := []) (by decide +kernel) rfl ?_
  refine ty_aload_n (pc := 65) (i := 0) (ks := []) (by decide +kernel) rfl ?_
  first | refine ty_getS (pc := 66) (idx := 86) (ci := 5) (f := 9) (by decide +kernel) (by first | rfl | assumption) rfl (by first | exact hS.1 _ _ rfl | assumption) (by assumption) ?_ | (refine ty_getR (pc := 66) (idx := 86) (ci := 5) (f := 9) (by decide +kernel) (by first | rfl | assumption) rfl (by first | exact hS.1 _ _ rfl | assumption) (fun v hv => ?_); (first | simp (decide := true) only [ty_sI, ty_sR, ty_sA, ty_sQ, ty_mA, ty_mQ, ↓reduceIte, false_and, and_false, true_and, and_true, and_self, hne] at hv | simp (decide := true) only [ty_sI, ty_sR, ty_sA, ty_sQ, ty_mA, ty_mQ, ↓reduceIte, false_and, and_false, true_and, and_true, and_self] at hv | skip); (subst hv))
  refine ty_putR (pc := 69) (idx := 236) (ci := 12) (f := 2) (by decide +kernel) (by first | rfl | assumption) rfl rfl (by first | exact hS.1 _ _ rfl | assumption) ?_
  refine ty_aload_n (pc := 72) (i := 3) (ks := []) (by decide +kernel) rfl ?_
  refine ty_aload_n (pc := 73) (i := 0) (ks := []) (by decide +kernel) rfl ?_
  refine ty_getI (pc := 74) (idx := 22) (ci := 5) (f := 8) (by decide +kernel) (by first | rfl | assumption) rfl (by first | exact hS.1 _ _ rfl | assumption) (fun v hv => ?_)
  first | simp (decide := true) only [ty_sI, ty_sR, ty_sA, ty_sQ, ty_mA, ty_mQ, ↓reduceIte, false_and, and_false, true_and, and_true, and_self, hne] at hv | simp (decide := true) only [ty_sI, ty_sR, ty_sA, ty_sQ, ty_mA, ty_mQ, ↓reduceIte, false_and, and_false, true_and, and_true, and_self] at hv | skip
  subst hv
  refine ty_putI (pc := 77) (idx := 237) (ci := 12) (f := 3) (by decide +kernel) (by first | rfl | assumption) rfl rfl (by first | exact hS.1 _ _ rfl | assumption) ?_
  refine ty_aload_n (pc := 80) (i := 3) (ks := []) (by decide +kernel) rfl ?_
  refine ty_aload_n (pc := 81) (i := 0) (ks := []) (by decide +kernel) rfl ?_
  refine ty_getS (b := (13, 0)) (pc := 82) (idx := 52) (ci := 5) (f := 1) (by decide +kernel) (by first | rfl | assumption) rfl (by first | exact hS.1 _ _ rfl | assumption) (by first | exact hS.2.2 _ _ _ _ rfl | assumption) ?_
  refine ty_getI (pc := 85) (idx := 238) (ci := 2) (f := 4) (by decide +kernel) (by first | rfl | assumption) rfl (by first | exact hS.1 _ _ rfl | assumption) (fun v hv => ?_)
  first | simp (decide := true) only [ty_sI, ty_sR, ty_sA, ty_sQ, ty_mA, ty_mQ, ↓reduceIte, false_and, and_false, true_and, and_true, and_self, hne] at hv | simp (decide := true) only [ty_sI, ty_sR, ty_sA, ty_sQ, ty_mA, ty_mQ, ↓reduceIte, false_and, and_false, true_and, and_true, and_self] at hv | skip
  subst hv
  refine ty_putI (pc := 88) (idx := 239) (ci := 12) (f := 4) (by decide +kernel) (by first | rfl | assumption) rfl rfl (by first | exact hS.1 _ _ rfl | assumption) ?_
  refine ty_aload_n (pc := 91) (i := 3) (ks := []) (by decide +kernel) rfl ?_
  refine ty_aload_n (pc := 92) (i := 0) (ks := []) (by decide +kernel) rfl ?_
  refine ty_getS (b := (13, 0)) (pc := 93) (idx := 52) (ci := 5) (f := 1) (by decide +kernel) (by first | rfl | assumption) rfl (by first | exact hS.1 _ _ rfl | assumption) (by first | exact hS.2.2 _ _ _ _ rfl | assumption) ?_
  refine ty_getI (pc := 96) (idx := 124) (ci := 2) (f := 7) (by decide +kernel) (by first | rfl | assumption) rfl (by first | exact hS.1 _ _ rfl | assumption) (fun v hv => ?_)
  first | simp (decide := true) only [ty_sI, ty_sR, ty_sA, ty_sQ, ty_mA, ty_mQ, ↓reduceIte, false_and, and_false, true_and, and_true, and_self, hne] at hv | simp (decide := true) only [ty_sI, ty_sR, ty_sA, ty_sQ, ty_mA, ty_mQ, ↓reduceIte, false_and, and_false, true_and, and_true, and_self] at hv | skip
  subst hv
  refine ty_putI (pc := 99) (idx := 240) (ci := 12) (f := 5) (by decide +kernel) (by first | rfl | assumption) rfl rfl (by first | exact hS.1 _ _ rfl | assumption) ?_
  refine ty_aload_n (pc := 102) (i := 3) (ks := []) (by decide +kernel) rfl ?_
  refine ty_aload_n (pc := 103) (i := 0) (ks := []) (by decide +kernel) rfl ?_
  refine ty_getS (b := (13, 0)) (pc := 104) (idx := 52) (ci := 5) (f := 1) (by decide +kernel) (by first | rfl | assumption) rfl (by first | exact hS.1 _ _ rfl | assumption) (by first | exact hS.2.2 _ _ _ _ rfl | assumption) ?_
  refine ty_getI (pc := 107) (idx := 241) (ci := 2) (f := 10) (by decide +kernel) (by first | rfl | assumption) rfl (by first | exact hS.1 _ _ rfl | assumption) (fun v hv => ?_)
  first | simp (decide := true) only [ty_sI, ty_sR, ty_sA, ty_sQ, ty_mA, ty_mQ, ↓reduceIte, false_and, and_false, true_and, and_true, and_self, hne] at hv | simp (decide := true) only [ty_sI, ty_sR, ty_sA, ty_sQ, ty_mA, ty_mQ, ↓reduceIte, false_and, and_false, true_and, and_true, and_self] at hv | skip
  subst hv
  refine ty_putI (pc := 110) (idx := 244) (ci := 12) (f := 6) (by decide +kernel) (by first | rfl | assumption) rfl rfl (by first | exact hS.1 _ _ rfl | assumption) ?_
  refine ty_aload_n (pc := 113) (i := 3) (ks := []) (by decide +kernel) rfl ?_
  refine ty_aload_n (pc := 114) (i := 0) (ks := []) (by decide +kernel) rfl ?_
  refine ty_getS (b := (13, 0)) (pc := 115) (idx := 52) (ci := 5) (f := 1) (by decide +kernel) (by first | rfl | assumption) rfl (by first | exact hS.1 _ _ rfl | assumption) (by first | exact hS.2.2 _ _ _ _ rfl | assumption) ?_
  refine ty_getI (pc := 118) (idx := 245) (ci := 2) (f := 13) (by decide +kernel) (by first | rfl | assumption) rfl (by first | exact hS.1 _ _ rfl | assumption) (fun v hv => ?_)
  first | simp (decide := true) only [ty_sI, ty_sR, ty_sA, ty_sQ, ty_mA, ty_mQ, ↓reduceIte, false_and, and_false, true_and, and_true, and_self, hne] at hv | simp (decide := true) only [ty_sI, ty_sR, ty_sA, ty_sQ, ty_mA, ty_mQ, ↓reduceIte, false_and, and_false, true_and, and_true, and_self] at hv | skip
  subst hv
  refine ty_putI (pc := 121) (idx := 248) (ci := 12) (f := 7) (by decide +kernel) (by first | rfl | assumption) rfl rfl (by first | exact hS.1 _ _ rfl | assumption) ?_
  refine ty_aload_n (pc := 124) (i := 3) (ks := []) (by decide +kernel) rfl ?_
  refine ty_aload_n (pc := 125) (i := 0) (ks := []) (by decide +kernel) rfl ?_
  refine ty_getS (b := (39, 0)) (pc := 126) (idx := 69) (ci := 5) (f := 4) (by decide +kernel) (by first | rfl | assumption) rfl (by first | exact hS.1 _ _ rfl | assumption) (by first | exact hS.2.2 _ _ _ _ rfl | assumption) ?_
  refine ty_getI (pc := 129) (idx := 107) (ci := 9) (f := 5) (by decide +kernel) (by first | rfl | assumption) rfl (by first | exact hS.1 _ _ rfl | assumption) (fun v hv => ?_)
  first | simp (decide := true) only [ty_sI, ty_sR, ty_sA, ty_sQ, ty_mA, ty_mQ, ↓reduceIte, false_and, and_false, true_and, and_true, and_self, hne] at hv | simp (decide := true) only [ty_sI, ty_sR, ty_sA, ty_sQ, ty_mA, ty_mQ, ↓reduceIte, false_and, and_false, true_and, and_true, and_self] at hv | skip
  subst hv
  refine ty_putI (pc := 132) (idx := 249) (ci := 12) (f := 8) (by decide +kernel) (by first | rfl | assumption) rfl rfl (by first | exact hS.1 _ _ rfl | assumption) ?_
  refine ty_aload_n (pc := 135) (i := 3) (ks := []) (by decide +kernel) rfl ?_
  refine ty_aload_n (pc := 136) (i := 0) (ks := []) (by decide +kernel) rfl ?_
  refine ty_getS (b := (39, 0)) (pc := 137) (idx := 69) (ci := 5) (f := 4) (by decide +kernel) (by first | rfl | assumption) rfl (by first | exact hS.1 _ _ rfl | assumption) (by first | exact hS.2.2 _ _ _ _ rfl | assumption) ?_
  refine ty_getI (pc := 140) (idx := 251) (ci := 9) (f := 7) (by decide +kernel) (by first | rfl | assumption) rfl (by first | exact hS.1 _ _ rfl | assumption) (fun v hv => ?_)
  first | simp (decide := true) only [ty_sI, ty_sR, ty_sA, ty_sQ, ty_mA, ty_mQ, ↓reduceIte, false_and, and_false, true_and, and_true, and_self, hne] at hv | simp (decide := true) only [ty_sI, ty_sR, ty_sA, ty_sQ, ty_mA, ty_mQ, ↓reduceIte, false_and, and_false, true_and, and_true, and_self] at hv | skip
  subst hv
  refine ty_putI (pc := 143) (idx := 254) (ci := 12) (f := 9) (by decide +kernel) (by first | rfl | assumption) rfl rfl (by first | exact hS.1 _ _ rfl | assumption) ?_
  -- at 146: .return_
  refine ty_ret_v (pc := 146) (ks := []) (by decide +kernel) rfl ?_
  generalize hT : ty_sI (ty_sI (ty_sI (ty_sI (ty_sI (ty_sI (ty_sI (ty_sR (ty_sI (ty_sI (ty_sI S1 (17, 0) 11 (S1.1 (17, 0) 11 + 1)) (52, k) 0 call) (52, k) 1 clause) (52, k) 2 (S1.2.1 (17, 0) 9)) (52, k) 3 (S1.1 (17, 0) 8)) (52, k) 4 (S1.1 (13, 0) 4)) (52, k) 5 (S1.1 (13, 0) 7)) (52, k) 6 (S1.1 (13, 0) 10)) (52, k) 7 (S1.1 (13, 0) 13)) (52, k) 8 (S1.1 (39, 0) 5)) (52, k) 9 (S1.1 (39, 0) 7) = T
  have e3 : T.2.2 = S1.2.2 := by rw [← hT]; rfl
  have eR : ∀ b j, T.2.1 b j = if b = (52, k) ∧ j = 2 then S1.2.1 (17, 0) 9 else S1.2.1 b j := fun b j => by rw [← hT]; rfl
  have nS : ((17, 0) : ai_A) ≠ (52, k) := by simp
  have oI : ∀ b j, b ≠ (52, k) → T.1 b j = if b = (17, 0) ∧ j = 11 then S1.1 (17, 0) 11 + 1 else S1.1 b j := fun b j h1 => by
    rw [← hT]
    simp only [ty_sI, ty_sR]
    simp [h1]
  have oR : ∀ b j, b ≠ (52, k) → T.2.1 b j = S1.2.1 b j := fun b j h1 => by rw [eR, if_neg (fun z => h1 z.1)]
  have oI2 : ∀ b j, b ≠ (52, k) → b ≠ (17, 0) → T.1 b j = S1.1 b j := fun b j h1 h2 => by rw [oI b j h1, if_neg (fun z => h2 z.1)]
  refine ⟨rfl, ?_, ⟨?_, ?_, ?_, ?_, l5⟩, ⟨Nat.le_refl _, hlt, .inl rfl⟩, ⟨fun b a1 a2 a3 a4 a5 j => ⟨oI2 b j (fun z => a5 (by rw [z])) (fun z => a1 (by rw [z])), oR b j (fun z => a5 (by rw [z]))⟩, fun b _ _ => by rw [e3]; exact ⟨rfl, fun _ => rfl, rfl⟩, by rw [e3], fun s _ _ _ _ => by rw [e3]⟩, fun j => ?_, fun j => oR _ j nS, ?_, fun i hi j => ?_, fun i j => ?_, fun K n th h => ?_⟩
  · refine ⟨by rw [e3]; exact hS.1, by rw [e3]; exact hS.2.1, fun s i j b hb => ?_⟩
    rw [eR, if_neg ?_]
    · exact hS.2.2 s i j b hb
    · rintro ⟨z, rfl⟩
      cases z
      exact absurd hb (by simp [ty_ref, ty_refL])
  · exact jd_al_keep l1 (oI2 _ _ (by simp) (by decide)) (oR _ _ (by simp)) (fun _ => by rw [e3]; exact ⟨rfl, rfl⟩) (fun s => by rw [e3]; exact Nat.le_refl _)
  · exact jd_al_keep l2 (oI2 _ _ (by simp) (by decide)) (oR _ _ (by simp)) (fun _ => by rw [e3]; exact ⟨rfl, rfl⟩) (fun s => by rw [e3]; exact Nat.le_refl _)
  · rw [e3]; exact l3
  · rw [e3]; exact l4
  · rw [oI _ j nS, hk]
    by_cases e : j = 11
    · rw [if_pos ⟨rfl, e⟩, if_pos e]
    · rw [if_neg (fun z => e z.2), if_neg e]
  · rw [← hT]
    simp only [ty_sI, ty_sR]
    simp
  · have h9 : ((52 : Nat), i) ≠ (52, k) := fun z => by cases z; omega
    exact ⟨oI2 _ _ h9 (by simp), oR _ _ h9⟩
  · exact ⟨oI2 _ _ (by simp) (by simp), oR _ _ (by simp)⟩
  · unfold cs_k at h ⊢
    rw [e3]
    exact h
theorem cs_leaveChoice (d : Nat) (hS : ty_st S) (hL : cs_L S D1 n1 c1 D2 n2 c2) {k : Nat} (hk : S.1 (17, 0) 11 = k) (hle : k ≤ n2) (hmx : n2 < 1000000) {call clause : Int} :
    ty_C L xs (d + 7) 68 [.inr (.inr (some (17, 0))), .inl (ty_J call), .inl (ty_J clause)] S (ty_oV fun S' => ∃ D2' n2' c2', cs_c S S' k call clause D1 n1 c1 D2 n2 c2 D2' n2' c2') := by
  have hL0 := hL
  obtain ⟨l1, l2, l3, l4, l5⟩ := hL
  have hsz := l2.1
  refine ty_enter (ml := 4) (ls := [_, _, _, _]) rfl rfl (Nat.le_of_ble_eq_true rfl) ?_
  refine ty_aload_n (pc := 0) (i := 0) (ks := []) (by decide +kernel) rfl ?_
  refine ty_getI (pc := 1) (idx := 28) (ci := 5) (f := 11) (by decide +kernel) (by first | rfl | assumption) rfl (by first | exact hS.1 _ _ rfl | assumption) (fun v hv => ?_)
  subst hv
  refine ty_aload_n (pc := 4) (i := 0) (ks := []) (by decide +kernel) rfl ?_
  refine ty_getS (b := (36, 0)) (pc := 5) (idx := 25) (ci := 5) (f := 10) (by decide +kernel) (by first | rfl | assumption) rfl (by first | exact hS.1 _ _ rfl | assumption) (by first | exact hS.2.2 _ _ _ _ rfl | assumption) ?_
  -- at 8: .invokevirtual 221
  rw [hk]
  refine ty_callv (pc := 8) (idx := 221) (m := 46) (n := 1) (c := 6) (vs := []) (r := [_]) (by decide +kernel) rfl rfl (Nat.le_of_ble_eq_true rfl) (by first | rfl | assumption) (by first | exact hS.1 _ _ rfl | assumption) (jd_size _ (by decide +kernel) (hS.1 _ _ rfl)) ?_
  rintro _ S1 ⟨z, rfl, rfl, rfl⟩
  rw [hsz]
  refine ty_KI ?_
  refine ty_icmp_lt (pc := 11) (off := 18) (t := 29) (ks := []) (by decide +kernel) (by omega) (by omega) (fun hc => ?_) (fun hc => ?_)
  · refine (cs_choice_tail (d + 3) hS hL0 hk (by omega)).mono ?_
    rintro o S' ⟨rfl, h⟩
    exact ⟨rfl, D2, n2, c2, h⟩
  · have hun : k = n2 := by omega
    have sk52 : ty_sk 52 = (1, 12) := by decide +kernel
    refine ty_aload_n (pc := 14) (i := 0) (ks := []) (by decide +kernel) rfl ?_
    refine ty_getS (b := (36, 0)) (pc := 15) (idx := 25) (ci := 5) (f := 10) (by decide +kernel) (by first | rfl | assumption) rfl (by first | exact hS.1 _ _ rfl | assumption) (by first | exact hS.2.2 _ _ _ _ rfl | assumption) ?_
    -- at 18: .new 118
    refine ty_newO (pc := 18) (idx := 118) (ci := 12) (s := 52) (by decide +kernel) sk52 (by decide +kernel) ?_
    have hS2 : ty_st (ty_nO S1 52 (ty_kd 12).length) := ty_st.nO (by decide +kernel) hS
    rw [l4]
    generalize hT : ty_nO S1 52 (ty_kd 12).length = T at hS2
    have tI : ∀ b j, T.1 b j = if b = (52, n2) then 0 else S1.1 b j := fun b j => by rw [← hT, ← l4]; rfl
    have tR : ∀ b j, T.2.1 b j = if b = (52, n2) then none else S1.2.1 b j := fun b j => by rw [← hT, ← l4]; rfl
    have tA : T.2.2.1 = S1.2.2.1 ∧ T.2.2.2.1 = S1.2.2.2.1 ∧ T.2.2.2.2.1 = S1.2.2.2.2.1 ∧ T.2.2.2.2.2.1 = S1.2.2.2.2.2.1 := by rw [← hT]; exact ⟨rfl, rfl, rfl, rfl⟩
    have tc : ∀ s, T.2.2.2.2.2.2.1 s = if s = 52 then n2 + 1 else S1.2.2.2.2.2.2.1 s := fun s => by rw [← hT, ← l4]; rfl
    have tn : T.2.2.2.2.2.2.2 = (S1.2.2.2.2.2.2.2.1 + 1, S1.2.2.2.2.2.2.2.2 + 10) := by rw [← hT]; rfl
    have tcm : ∀ s, S1.2.2.2.2.2.2.1 s ≤ T.2.2.2.2.2.2.1 s := fun s => by
      rw [tc]
      split
      · rename_i e; rw [e, l4]; omega
      · exact Nat.le_refl _
    have lT1 : jd_al T (35, 0) 49 D1 n1 c1 := jd_al_keep l1 (by rw [tI, if_neg (by simp)]) (by rw [tR, if_neg (by simp)]) (fun _ => by rw [tA.2.1, tA.2.2.2]; exact ⟨rfl, rfl⟩) tcm
    have lT2 : jd_al T (36, 0) 52 D2 n2 c2 := jd_al_keep l2 (by rw [tI, if_neg (by simp)]) (by rw [tR, if_neg (by simp)]) (fun _ => by rw [tA.2.1, tA.2.2.2]; exact ⟨rfl, rfl⟩) tcm
    have c52 : n2 < T.2.2.2.2.2.2.1 52 := by rw [tc, if_pos rfl]; omega
    have hS := hS2
    refine ty_dup (pc := 21) (ks := []) (by decide +kernel) rfl ?_
    -- at 22: .invokespecial 225
    refine ty_callp (pc := 22) (idx := 225) (m := 69) (n := 1) (c := 0) (vs := []) (r := [_, _]) (by decide +kernel) rfl rfl (Nat.le_of_ble_eq_true rfl) (ct_Choice_init _) ?_
    rintro _ S2 ⟨rfl, rfl⟩
    refine ty_KV ?_
    refine ty_callv (pc := 25) (idx := 226) (m := 48) (n := 2) (c := 6) (vs := [_]) (r := []) (by decide +kernel) rfl rfl (Nat.le_of_ble_eq_true rfl) (by first | rfl | assumption) (by first | exact hS.1 _ _ rfl | assumption) (jd_add d (by decide +kernel) (hS.1 _ _ rfl) (by decide) (hS.1 0 2 rfl) lT2 sk52 (by decide) c52 hmx (by decide)) ?_
    rintro _ S3 ⟨z, rfl, D2', c2', a1, ⟨f1, f2, f3, f4, f5, f6, f7, f8, f9⟩, a3, a4⟩
    refine ty_KI ?_
    have hc0 : ∀ b : ai_A, b.1 ≠ 50 → b.1 ≠ 51 → b ≠ D2' ∨ D2' = D2 := fun b h1 h2 => by
      rcases f9 with z | z
      · exact .inr z
      · refine .inl (fun e => ?_)
        rw [e] at h1 h2
        rcases z.2 with w | w
        · exact h1 w
        · exact h2 w
    have hS3 : ty_st S3 := by
      refine ⟨fun s i hi => Nat.lt_of_lt_of_le (hS2.1 s i hi) (f8 s), fun s i q hq => ?_, fun s i k b hb => ?_⟩
      · have e50 : ty_len 50 = none := by decide +kernel
        have e51 : ty_len 51 = none := by decide +kernel
        rw [f6 (s, i) (hc0 _ (fun z => by rw [show s = 50 from z, e50] at hq; cases hq) (fun z => by rw [show s = 51 from z, e51] at hq; cases hq))]
        exact hS2.2.1 s i q hq
      · by_cases e : ((s, i) : ai_A) = (36, 0)
        · cases e
          exact absurd hb (by simp [ty_ref, ty_refL])
        · rw [f2 _ _ e]
          exact hS2.2.2 s i k b hb
    have hD1 : D1 ≠ (0, 1) → D1 ≠ D2 ∧ D1 ≠ D2' := by
      intro h
      refine ⟨fun z => h (l5 z), fun z => ?_⟩
      rcases f9 with w | ⟨w1, w2⟩
      · rw [w] at z
        exact h (l5 z)
      · rcases l1.2.2.2.2.2 with ⟨w3, -⟩ | ⟨w3, w4, -⟩
        · exact h w3
        · have h7 := tcm D1.1
          rw [← z] at w1
          omega
    have lT1' : jd_al S3 (35, 0) 49 D1 n1 c1 := jd_al_keep lT1 (f1 _ _ (by decide)) (f2 _ _ (by decide)) (fun h => ⟨f4 D1 (hD1 h).1 (hD1 h).2, f6 D1 (.inl (hD1 h).2)⟩) f8
    have hL3 : cs_L S3 D1 n1 c1 D2' (n2 + 1) c2' := by
      refine ⟨lT1', a1, ?_, ?_, fun e => ?_⟩
      · rw [f7 49 (by decide) (by decide), tc, if_neg (by decide)]; exact l3
      · rw [f7 52 (by decide) (by decide), tc, if_pos rfl]
      · by_cases h : D1 = (0, 1)
        · exact h
        · exact absurd e (hD1 h).2
    have sI : ∀ b j, b ≠ (36, 0) → b ≠ (52, n2) → S3.1 b j = S1.1 b j := fun b j h1 h2 => by rw [f1 b j h1, tI, if_neg h2]
    have sR : ∀ b j, b ≠ (36, 0) → b ≠ (52, n2) → S3.2.1 b j = S1.2.1 b j := fun b j h1 h2 => by rw [f2 b j h1, tR, if_neg h2]
    have hk3 : S3.1 (17, 0) 11 = k := by rw [sI _ _ (by decide) (by simp)]; exact hk
    have hS := hS3
    refine ty_pop (pc := 28) (ks := []) (by decide +kernel) rfl ?_
    -- at 29: .aload_n 0
    refine (cs_choice_tail (d + 3) hS3 hL3 hk3 (by omega)).mono ?_
    rintro o S' ⟨rfl, p1, p2, p3, p4, p5, p6, p7, p8, p9, p10⟩
    refine ⟨rfl, D2', n2 + 1, c2', p1, p2, ⟨by omega, by omega, .inr (by omega)⟩, ?_, fun j => ?_, fun j => ?_, ?_, fun i hi j => ?_, fun i j => ?_, fun K n th h => ?_⟩
    · refine cs_f.trans ⟨fun b b1 b2 b3 b4 b5 j => ⟨sI b j (fun z => b3 (by rw [z])) (fun z => b5 (by rw [z])), sR b j (fun z => b3 (by rw [z])) (fun z => b5 (by rw [z]))⟩, fun b b1 b2 => ⟨?_, fun b0 => ?_, ?_⟩, ?_, fun s s1 s2 s3 s4 => ?_⟩ p4
      · rw [f3 b (hc0 b b1 b2), tA.1]
      · rw [f4 b (fun z => ?_) (fun z => ?_), tA.2.1]
        · rw [z] at b0 b1 b2
          rcases l2.2.2.2.2.2 with ⟨w, -, -⟩ | ⟨w, -⟩
          · rw [w] at b0
            exact b0 rfl
          · omega
        · rcases hc0 b b1 b2 with w | w
          · exact w z
          · rw [z, w] at b0 b1 b2
            rcases l2.2.2.2.2.2 with ⟨w, -, -⟩ | ⟨w, -⟩
            · rw [w] at b0
              exact b0 rfl
            · omega
      · rw [f6 b (hc0 b b1 b2), tA.2.2.2]
      · rw [f5, tA.2.2.1]
      · rw [f7 s s2 s3, tc, if_neg s4]
    · rw [p5]
      by_cases e : j = 11
      · rw [if_pos e, if_pos e]
      · rw [if_neg e, if_neg e, sI _ _ (by decide) (by simp)]
    · rw [p6, sR _ _ (by decide) (by simp)]
    · rw [sR (17, 0) _ (by decide) (by simp), sI (17, 0) _ (by decide) (by simp), sI (13, 0) _ (by decide) (by simp), sI (13, 0) _ (by decide) (by simp), sI (13, 0) _ (by decide) (by simp), sI (13, 0) _ (by decide) (by simp), sI (39, 0) _ (by decide) (by simp), sI (39, 0) _ (by decide) (by simp)] at p7
      exact p7
    · have h9 : ((52 : Nat), i) ≠ (52, n2) := fun z => by cases z; omega
      rw [(p8 i hi j).1, (p8 i hi j).2]
      exact ⟨sI _ _ (by simp) h9, sR _ _ (by simp) h9⟩
    · rw [(p9 i j).1, (p9 i j).2]
      exact ⟨sI _ _ (by simp) (by simp), sR _ _ (by simp) (by simp)⟩
    · refine p10 K n th ?_
      refine cs_k_add2 ?_ a4 (a1.2.2.2.2.2.elim (fun w => .inl w.2.2) (fun w => .inr w.2.2.2.1))
      unfold cs_k at h ⊢
      rw [tn]
      simp only
      omega
end CSC
