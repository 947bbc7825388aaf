/-! A goal in front. -/
section CSP
variable {L : Nat} {xs : Nat → Int32} {S : ty_S} {D1 D2 : ai_A} {n1 c1 n2 c2 : Nat}
/-- what it comes to: (49, u) is the goal in front -/
def cs_p (S S' : ty_S) (u : Nat) (g : mo_Go) (D1 : ai_A) (n1 c1 : Nat) (D2 : ai_A) (n2 c2 : Nat) (D1' : ai_A) (n1' c1' : Nat) : Prop := ty_st S' ∧ cs_L S' D1' n1' c1' D2 n2 c2 ∧ (n1 ≤ n1' ∧ u + 1 ≤ n1' ∧ (n1' = n1 ∨ n1' = u + 1)) ∧ cs_f S S' ∧ (∀ j, S'.1 (17, 0) j = if j = 8 then (u : Int) + 1 else S.1 (17, 0) j) ∧ (∀ j, S'.2.1 (17, 0) j = if j = 9 then some (49, u) else S.2.1 (17, 0) j) ∧
  (S'.1 (49, u) 0 = g.1 ∧ S'.1 (49, u) 1 = g.2.1 ∧ S'.1 (49, u) 2 = g.2.2.1 ∧ S'.1 (49, u) 3 = g.2.2.2 ∧ S'.2.1 (49, u) 4 = S.2.1 (17, 0) 9) ∧ (∀ i, i < u → ∀ j, S'.1 (49, i) j = S.1 (49, i) j ∧ S'.2.1 (49, i) j = S.2.1 (49, i) j) ∧ (∀ i j, S'.1 (52, i) j = S.1 (52, i) j ∧ S'.2.1 (52, i) j = S.2.1 (52, i) j) ∧
  ∀ K n th, cs_k S K n1 c1 n2 c2 n th → cs_k S' K n1' c1' n2 c2 n th
/-- from the list's row on -/
theorem cs_put_tail (d : Nat) (hS : ty_st S) (hL : cs_L S D1 n1 c1 D2 n2 c2) {u : Nat} (hu : S.1 (17, 0) 8 = u) (hlt : u < n1) {g : mo_Go} (hg : 0 ≤ g.1 ∧ g.1 ≤ 65535) (x5 : Option ai_V) (h5 : x5 = none) :
    ty_W L xs (d + 3) 45 29 [some (.inr (.inr (some (17, 0)))), some (.inl (ty_J g.1)), some (.inl (ty_J g.2.1)), some (.inl (ty_J g.2.2.1)), some (.inl (ty_J g.2.2.2)), x5] [] S (ty_oV fun S' => cs_p S S' u g D1 n1 c1 D2 n2 c2 D1 n1 c1) := by
  subst h5
  obtain ⟨l1, l2, l3, l4, l5⟩ := hL
  have hp : ((49, u) : ai_A).2 < S.2.2.2.2.2.2.1 ((49, u) : ai_A).1 := by
    show u < S.2.2.2.2.2.2.1 49
    omega
  have hsk : ty_sk ((49, u) : ai_A).1 = (1, 11) := by
    show ty_sk 49 = (1, 11)
    decide +kernel
  refine ty_aload_n (pc := 29) (i := 0) (ks := []) (by decide +kernel) rfl ?_
  refine ty_getS (b := (35, 0)) (pc := 30) (idx := 18) (ci := 5) (f := 7) (by decide +kernel) (by first | rfl | assumption) rfl (by first | exact hS.1 _ _ rfl | assumption) (by first | exact hS.2.2 _ _ _ _ rfl | assumption) ?_
  refine ty_aload_n (pc := 33) (i := 0) (ks := []) (by decide +kernel) rfl ?_
  refine ty_getI (pc := 34) (idx := 22) (ci := 5) (f := 8) (by decide +kernel) (by first | rfl | assumption) rfl (by first | exact hS.1 _ _ rfl | assumption) (fun v hv => ?_)
  subst hv
  -- at 37: .invokevirtual 114
  rw [hu]
  refine ty_callv (pc := 37) (idx := 114) (m := 56) (n := 2) (c := 6) (vs := [_]) (r := []) (by decide +kernel) rfl rfl (Nat.le_of_ble_eq_true rfl) (by first | rfl | assumption) (by first | exact hS.1 _ _ rfl | assumption) (jd_get d (by decide +kernel) (hS.1 _ _ rfl) l1 hlt) ?_
  rintro _ S1 ⟨z, rfl, rfl, rfl⟩
  refine ty_KR ?_
  refine ty_cast (pc := 40) (idx := 142) (ci := 11) (by decide +kernel) (by first | rfl | assumption) (by first | exact hS.1 _ _ rfl | assumption) ?_
  refine ty_astore (pc := 43) (i := 5) (ks := []) (ls' := [_, _, _, _, _, _]) (by decide +kernel) rfl ?_
  refine ty_aload_n (pc := 45) (i := 0) (ks := []) (by decide +kernel) rfl ?_
  refine ty_dup (pc := 46) (ks := []) (by decide +kernel) rfl ?_
  refine ty_getI (pc := 47) (idx := 22) (ci := 5) (f := 8) (by decide +kernel) (by first | rfl | assumption) rfl (by first | exact hS.1 _ _ rfl | assumption) (fun v hv => ?_)
  subst hv
  refine ty_iconst (pc := 50) (n := 1) (ks := []) (by decide +kernel) ?_
  refine ty_iadd (pc := 51) (ks := []) (by decide +kernel) ?_
  refine ty_putI (pc := 52) (idx := 22) (ci := 5) (f := 8) (by decide +kernel) (by first | rfl | assumption) rfl rfl (by first | exact hS.1 _ _ rfl | assumption) ?_
  refine ty_aload (pc := 55) (i := 5) (ks := []) (by decide +kernel) rfl ?_
  refine ty_iload_n (pc := 57) (i := 1) (ks := []) (by decide +kernel) rfl ?_
  refine ty_putC (pc := 58) (idx := 146) (ci := 11) (f := 0) (by decide +kernel) (by first | rfl | assumption) rfl rfl (by first | exact hS.1 _ _ rfl | assumption) (by omega) ?_
  refine ty_aload (pc := 61) (i := 5) (ks := []) (by decide +kernel) rfl ?_
  refine ty_iload_n (pc := 63) (i := 2) (ks := []) (by decide +kernel) rfl ?_
  refine ty_putI (pc := 64) (idx := 159) (ci := 11) (f := 1) (by decide +kernel) (by first | rfl | assumption) rfl rfl (by first | exact hS.1 _ _ rfl | assumption) ?_
  refine ty_aload (pc := 67) (i := 5) (ks := []) (by decide +kernel) rfl ?_
  refine ty_iload_n (pc := 69) (i := 3) (ks := []) (by decide +kernel) rfl ?_
  refine ty_putI (pc := 70) (idx := 165) (ci := 11) (f := 2) (by decide +kernel) (by first | rfl | assumption) rfl rfl (by first | exact hS.1 _ _ rfl | assumption) ?_
  refine ty_aload (pc := 73) (i := 5) (ks := []) (by decide +kernel) rfl ?_
  refine ty_iload (pc := 75) (i := 4) (ks := []) (by decide +kernel) rfl ?_
  refine ty_putI (pc := 77) (idx := 150) (ci := 11) (f := 3) (by decide +kernel) (by first | rfl | assumption) rfl rfl (by first | exact hS.1 _ _ rfl | assumption) ?_
  refine ty_aload (pc := 80) (i := 5) (ks := []) (by decide +kernel) rfl ?_
  refine ty_aload_n (pc := 82) (i := 0) (ks := []) (by decide +kernel) rfl ?_
  first | refine ty_getS (pc := 83) (idx := 86) (ci := 5) (f := 9) (by decide +kernel) (by first | rfl | assumption) rfl (by first | exact hS.1 _ _ rfl | assumption) (by assumption) ?_ | (refine ty_getR (pc := 83) (idx := 86) (ci := 5) (f := 9) (by decide +kernel) (by first | rfl | assumption) rfl (by first | exact hS.1 _ _ rfl | assumption) (fun v hv => ?_); (first | simp (decide := true) only [ty_sI, ty_sR, ty_sA, ty_sQ, ty_mA, ty_mQ, ↓reduceIte, false_and, and_false, true_and, and_true, and_self, hne] at hv | simp (decide := true) only [ty_sI, ty_sR, ty_sA, ty_sQ, ty_mA, ty_mQ, ↓reduceIte, false_and, and_false, true_and, and_true, and_self] at hv | skip); (subst hv))
  refine ty_putR (pc := 86) (idx := 141) (ci := 11) (f := 4) (by decide +kernel) (by first | rfl | assumption) rfl rfl (by first | exact hS.1 _ _ rfl | assumption) ?_
  refine ty_aload_n (pc := 89) (i := 0) (ks := []) (by decide +kernel) rfl ?_
  refine ty_aload (pc := 90) (i := 5) (ks := []) (by decide +kernel) rfl ?_
  refine ty_putR (pc := 92) (idx := 86) (ci := 5) (f := 9) (by decide +kernel) (by first | rfl | assumption) rfl rfl (by first | exact hS.1 _ _ rfl | assumption) ?_
  -- at 95: .return_
  refine ty_ret_v (pc := 95) (ks := []) (by decide +kernel) rfl ?_
  generalize hT : ty_sR (ty_sR (ty_sI (ty_sI (ty_sI (ty_sI (ty_sI S1 (17, 0) 8 (S1.1 (17, 0) 8 + 1)) (49, u) 0 g.1) (49, u) 1 g.2.1) (49, u) 2 g.2.2.1) (49, u) 3 g.2.2.2) (49, u) 4 (S1.2.1 (17, 0) 9)) (17, 0) 9 (some (49, u)) = T
  have e3 : T.2.2 = S1.2.2 := by rw [← hT]; rfl
  have eI : ∀ b j, T.1 b j = if b = (49, u) ∧ j = 3 then g.2.2.2 else if b = (49, u) ∧ j = 2 then g.2.2.1 else if b = (49, u) ∧ j = 1 then g.2.1 else if b = (49, u) ∧ j = 0 then g.1 else if b = (17, 0) ∧ j = 8 then S1.1 (17, 0) 8 + 1 else S1.1 b j := fun b j => by rw [← hT]; rfl
  have eR : ∀ b j, T.2.1 b j = if b = (17, 0) ∧ j = 9 then some (49, u) else if b = (49, u) ∧ j = 4 then S1.2.1 (17, 0) 9 else S1.2.1 b j := fun b j => by rw [← hT]; rfl
  have oI : ∀ b j, b ≠ (49, u) → b ≠ (17, 0) → T.1 b j = S1.1 b j := fun b j h1 h2 => by
    rw [eI, if_neg (fun z => h1 z.1), if_neg (fun z => h1 z.1), if_neg (fun z => h1 z.1), if_neg (fun z => h1 z.1), if_neg (fun z => h2 z.1)]
  have oR : ∀ b j, b ≠ (49, u) → b ≠ (17, 0) → T.2.1 b j = S1.2.1 b j := fun b j h1 h2 => by
    rw [eR, if_neg (fun z => h2 z.1), if_neg (fun z => h1 z.1)]
  have nS : ((17, 0) : ai_A) ≠ (49, u) := by simp
  refine ⟨rfl, ?_, ⟨?_, ?_, ?_, ?_, l5⟩, ⟨Nat.le_refl _, hlt, .inl rfl⟩, ⟨fun b a1 a2 a3 a4 a5 j => ⟨oI b j (fun z => a4 (by rw [z])) (fun z => a1 (by rw [z])), oR b j (fun z => a4 (by rw [z])) (fun z => a1 (by rw [z]))⟩, fun b _ _ => by rw [e3]; exact ⟨rfl, fun _ => rfl, rfl⟩, by rw [e3], fun s _ _ _ _ => by rw [e3]⟩, fun j => ?_, fun j => ?_, ⟨?_, ?_, ?_, ?_, ?_⟩, fun i hi j => ?_, fun i j => ?_, fun K n th h => ?_⟩
  · refine ⟨by rw [e3]; exact hS.1, by rw [e3]; exact hS.2.1, fun s i k b hb => ?_⟩
    rw [eR, if_neg ?_, if_neg ?_]
    · exact hS.2.2 s i k b hb
    · rintro ⟨z, rfl⟩
      cases z
      exact absurd hb (by simp [ty_ref, ty_refL])
    · rintro ⟨z, rfl⟩
      cases z
      exact absurd hb (by simp [ty_ref, ty_refL])
  · exact jd_al_keep l1 (oI _ _ (by simp) (by decide)) (oR _ _ (by simp) (by decide)) (fun _ => by rw [e3]; exact ⟨rfl, rfl⟩) (fun s => by rw [e3]; exact Nat.le_refl _)
  · exact jd_al_keep l2 (oI _ _ (by simp) (by decide)) (oR _ _ (by simp) (by decide)) (fun _ => by rw [e3]; exact ⟨rfl, rfl⟩) (fun s => by rw [e3]; exact Nat.le_refl _)
  · rw [e3]; exact l3
  · rw [e3]; exact l4
  · rw [eI, if_neg (fun z => nS z.1), if_neg (fun z => nS z.1), if_neg (fun z => nS z.1), if_neg (fun z => nS z.1), hu]
    by_cases e : j = 8
    · rw [if_pos ⟨rfl, e⟩, if_pos e]
    · rw [if_neg (fun z => e z.2), if_neg e]
  · rw [eR]
    by_cases e : j = 9
    · rw [if_pos ⟨rfl, e⟩, if_pos e]
    · rw [if_neg (fun z => e z.2), if_neg (fun z => nS z.1), if_neg e]
  · rw [eI]; simp
  · rw [eI]; simp
  · rw [eI]; simp
  · rw [eI]; simp
  · rw [eR]; simp
  · have h9 : ((49 : Nat), i) ≠ (49, u) := fun z => by cases z; omega
    exact ⟨oI _ _ h9 (by simp), oR _ _ h9 (by simp)⟩
  · exact ⟨oI _ _ (by simp) (by simp), oR _ _ (by simp) (by simp)⟩
  · unfold cs_k at h ⊢
    rw [e3]
    exact h
theorem cs_putGoal (d : Nat) (hS : ty_st S) (hL : cs_L S D1 n1 c1 D2 n2 c2) {u : Nat} (hu : S.1 (17, 0) 8 = u) (hle : u ≤ n1) (hmx : n1 < 1000000) {g : mo_Go} (hg : 0 ≤ g.1 ∧ g.1 ≤ 65535) :
    ty_C L xs (d + 7) 45 [.inr (.inr (some (17, 0))), .inl (ty_J g.1), .inl (ty_J g.2.1), .inl (ty_J g.2.2.1), .inl (ty_J g.2.2.2)] S (ty_oV fun S' => ∃ D1' n1' c1', cs_p S S' u g D1 n1 c1 D2 n2 c2 D1' n1' c1') := by
  have hL0 := hL
  obtain ⟨l1, l2, l3, l4, l5⟩ := hL
  have hsz := l1.1
  refine ty_enter (ml := 6) (ls := [_, _, _, _, _, _]) rfl rfl (Nat.le_of_ble_eq_true rfl) ?_
  refine ty_aload_n (pc := 0) (i := 0) (ks := []) (by decide +kernel) rfl ?_
  refine ty_getI (pc := 1) (idx := 22) (ci := 5) (f := 8) (by decide +kernel) (by first | rfl | assumption) rfl (by first | exact hS.1 _ _ rfl | assumption) (fun v hv => ?_)
  subst hv
  refine ty_aload_n (pc := 4) (i := 0) (ks := []) (by decide +kernel) rfl ?_
  refine ty_getS (b := (35, 0)) (pc := 5) (idx := 18) (ci := 5) (f := 7) (by decide +kernel) (by first | rfl | assumption) rfl (by first | exact hS.1 _ _ rfl | assumption) (by first | exact hS.2.2 _ _ _ _ rfl | assumption) ?_
  -- at 8: .invokevirtual 221
  rw [hu]
  refine ty_callv (pc := 8) (idx := 221) (m := 46) (n := 1) (c := 6) (vs := []) (r := [_]) (by decide +kernel) rfl rfl (Nat.le_of_ble_eq_true rfl) (by first | rfl | assumption) (by first | exact hS.1 _ _ rfl | assumption) (jd_size _ (by decide +kernel) (hS.1 _ _ rfl)) ?_
  rintro _ S1 ⟨z, rfl, rfl, rfl⟩
  rw [hsz]
  refine ty_KI ?_
  refine ty_icmp_lt (pc := 11) (off := 18) (t := 29) (ks := []) (by decide +kernel) (by omega) (by omega) (fun hc => ?_) (fun hc => ?_)
  · refine (cs_put_tail (d + 3) hS hL0 hu (by omega) hg none rfl).mono ?_
    rintro o S' ⟨rfl, h⟩
    exact ⟨rfl, D1, n1, c1, h⟩
  · have hun : u = n1 := by omega
    have sk49 : ty_sk 49 = (1, 11) := by decide +kernel
    refine ty_aload_n (pc := 14) (i := 0) (ks := []) (by decide +kernel) rfl ?_
    refine ty_getS (b := (35, 0)) (pc := 15) (idx := 18) (ci := 5) (f := 7) (by decide +kernel) (by first | rfl | assumption) rfl (by first | exact hS.1 _ _ rfl | assumption) (by first | exact hS.2.2 _ _ _ _ rfl | assumption) ?_
    -- at 18: .new 142
    refine ty_newO (pc := 18) (idx := 142) (ci := 11) (s := 49) (by decide +kernel) sk49 (by decide +kernel) ?_
    have hS2 : ty_st (ty_nO S1 49 (ty_kd 11).length) := ty_st.nO (by decide +kernel) hS
    rw [l3]
    generalize hT : ty_nO S1 49 (ty_kd 11).length = T at hS2
    have tI : ∀ b j, T.1 b j = if b = (49, n1) then 0 else S1.1 b j := fun b j => by rw [← hT, ← l3]; rfl
    have tR : ∀ b j, T.2.1 b j = if b = (49, n1) then none else S1.2.1 b j := fun b j => by rw [← hT, ← l3]; rfl
    have tA : T.2.2.1 = S1.2.2.1 ∧ T.2.2.2.1 = S1.2.2.2.1 ∧ T.2.2.2.2.1 = S1.2.2.2.2.1 ∧ T.2.2.2.2.2.1 = S1.2.2.2.2.2.1 := by rw [← hT]; exact ⟨rfl, rfl, rfl, rfl⟩
    have tc : ∀ s, T.2.2.2.2.2.2.1 s = if s = 49 then n1 + 1 else S1.2.2.2.2.2.2.1 s := fun s => by rw [← hT, ← l3]; rfl
    have tn : T.2.2.2.2.2.2.2 = (S1.2.2.2.2.2.2.2.1 + 1, S1.2.2.2.2.2.2.2.2 + 5) := by rw [← hT]; rfl
    have tcm : ∀ s, S1.2.2.2.2.2.2.1 s ≤ T.2.2.2.2.2.2.1 s := fun s => by
      rw [tc]
      split
      · rename_i e; rw [e, l3]; omega
      · exact Nat.le_refl _
    have lT1 : jd_al T (35, 0) 49 D1 n1 c1 := jd_al_keep l1 (by rw [tI, if_neg (by simp)]) (by rw [tR, if_neg (by simp)]) (fun _ => by rw [tA.2.1, tA.2.2.2]; exact ⟨rfl, rfl⟩) tcm
    have lT2 : jd_al T (36, 0) 52 D2 n2 c2 := jd_al_keep l2 (by rw [tI, if_neg (by simp)]) (by rw [tR, if_neg (by simp)]) (fun _ => by rw [tA.2.1, tA.2.2.2]; exact ⟨rfl, rfl⟩) tcm
    have c49 : n1 < T.2.2.2.2.2.2.1 49 := by rw [tc, if_pos rfl]; omega
    have hS := hS2
    refine ty_dup (pc := 21) (ks := []) (by decide +kernel) rfl ?_
    -- at 22: .invokespecial 287
    refine ty_callp (pc := 22) (idx := 287) (m := 47) (n := 1) (c := 0) (vs := []) (r := [_, _]) (by decide +kernel) rfl rfl (Nat.le_of_ble_eq_true rfl) (ct_ToDo_init _) ?_
    rintro _ S2 ⟨rfl, rfl⟩
    refine ty_KV ?_
    refine ty_callv (pc := 25) (idx := 226) (m := 48) (n := 2) (c := 6) (vs := [_]) (r := []) (by decide +kernel) rfl rfl (Nat.le_of_ble_eq_true rfl) (by first | rfl | assumption) (by first | exact hS.1 _ _ rfl | assumption) (jd_add d (by decide +kernel) (hS.1 _ _ rfl) (by decide) (hS.1 0 2 rfl) lT1 sk49 (by decide) c49 hmx (by decide)) ?_
    rintro _ S3 ⟨z, rfl, D1', c1', a1, ⟨f1, f2, f3, f4, f5, f6, f7, f8, f9⟩, a3, a4⟩
    refine ty_KI ?_
    -- the state with one more in the list
    have hc0 : ∀ b : ai_A, b.1 ≠ 50 → b.1 ≠ 51 → b ≠ D1' ∨ D1' = D1 := fun b h1 h2 => by
      rcases f9 with z | z
      · exact .inr z
      · refine .inl (fun e => ?_)
        rw [e] at h1 h2
        rcases z.2 with w | w
        · exact h1 w
        · exact h2 w
    have hS3 : ty_st S3 := by
      refine ⟨fun s i hi => Nat.lt_of_lt_of_le (hS2.1 s i hi) (f8 s), fun s i q hq => ?_, fun s i k b hb => ?_⟩
      · have e50 : ty_len 50 = none := by decide +kernel
        have e51 : ty_len 51 = none := by decide +kernel
        rw [f6 (s, i) (hc0 _ (fun z => by rw [show s = 50 from z, e50] at hq; cases hq) (fun z => by rw [show s = 51 from z, e51] at hq; cases hq))]
        exact hS2.2.1 s i q hq
      · by_cases e : ((s, i) : ai_A) = (35, 0)
        · cases e
          exact absurd hb (by simp [ty_ref, ty_refL])
        · rw [f2 _ _ e]
          exact hS2.2.2 s i k b hb
    have hD2 : D2 ≠ (0, 1) → D2 ≠ D1 ∧ D2 ≠ D1' := by
      intro h
      refine ⟨fun z => h (z.trans (l5 z.symm)), fun z => ?_⟩
      rcases f9 with w | ⟨w1, w2⟩
      · rw [w] at z
        exact h (z.trans (l5 z.symm))
      · rcases l2.2.2.2.2.2 with ⟨w3, -⟩ | ⟨w3, w4, -⟩
        · exact h w3
        · have h7 := tcm D2.1
          rw [← z] at w1
          omega
    have lT2' : jd_al S3 (36, 0) 52 D2 n2 c2 := jd_al_keep lT2 (f1 _ _ (by decide)) (f2 _ _ (by decide)) (fun h => ⟨f4 D2 (hD2 h).1 (hD2 h).2, f6 D2 (.inl (hD2 h).2)⟩) f8
    have hL3 : cs_L S3 D1' (n1 + 1) c1' D2 n2 c2 := by
      refine ⟨a1, lT2', ?_, ?_, fun e => ?_⟩
      · rw [f7 49 (by decide) (by decide), tc, if_pos rfl]
      · rw [f7 52 (by decide) (by decide), tc, if_neg (by decide)]; exact l4
      · by_cases h : D2 = (0, 1)
        · rw [e]; exact h
        · exact absurd e.symm (hD2 h).2
    have sI : ∀ b j, b ≠ (35, 0) → b ≠ (49, n1) → S3.1 b j = S1.1 b j := fun b j h1 h2 => by rw [f1 b j h1, tI, if_neg h2]
    have sR : ∀ b j, b ≠ (35, 0) → b ≠ (49, n1) → S3.2.1 b j = S1.2.1 b j := fun b j h1 h2 => by rw [f2 b j h1, tR, if_neg h2]
    have hu3 : S3.1 (17, 0) 8 = u := by rw [sI _ _ (by decide) (by simp)]; exact hu
    have hS := hS3
    refine ty_pop (pc := 28) (ks := []) (by decide +kernel) rfl ?_
    -- at 29: .aload_n 0
    refine (cs_put_tail (d + 3) hS3 hL3 hu3 (by omega) hg none rfl).mono ?_
    rintro o S' ⟨rfl, p1, p2, p3, p4, p5, p6, p7, p8, p9, p10⟩
    refine ⟨rfl, D1', n1 + 1, c1', p1, p2, ⟨by omega, by omega, .inr (by omega)⟩, ?_, fun j => ?_, fun j => ?_, ⟨p7.1, p7.2.1, p7.2.2.1, p7.2.2.2.1, ?_⟩, fun i hi j => ?_, fun i j => ?_, fun K n th h => ?_⟩
    · refine cs_f.trans ⟨fun b b1 b2 b3 b4 b5 j => ⟨sI b j (fun z => b2 (by rw [z])) (fun z => b4 (by rw [z])), sR b j (fun z => b2 (by rw [z])) (fun z => b4 (by rw [z]))⟩, fun b b1 b2 => ⟨?_, fun b0 => ?_, ?_⟩, ?_, fun s s1 s2 s3 s4 => ?_⟩ p4
      · rw [f3 b (hc0 b b1 b2), tA.1]
      · rw [f4 b (fun z => ?_) (fun z => ?_), tA.2.1]
        · rw [z] at b0 b1 b2
          rcases l1.2.2.2.2.2 with ⟨w, -, -⟩ | ⟨w, -⟩
          · rw [w] at b0
            exact b0 rfl
          · omega
        · rcases hc0 b b1 b2 with w | w
          · exact w z
          · rw [z, w] at b0 b1 b2
            rcases l1.2.2.2.2.2 with ⟨w, -, -⟩ | ⟨w, -⟩
            · rw [w] at b0
              exact b0 rfl
            · omega
      · rw [f6 b (hc0 b b1 b2), tA.2.2.2]
      · rw [f5, tA.2.2.1]
      · rw [f7 s s2 s3, tc, if_neg s1]
    · rw [p5]
      by_cases e : j = 8
      · rw [if_pos e, if_pos e]
      · rw [if_neg e, if_neg e, sI _ _ (by decide) (by simp)]
    · rw [p6]
      by_cases e : j = 9
      · rw [if_pos e, if_pos e]
      · rw [if_neg e, if_neg e, sR _ _ (by decide) (by simp)]
    · rw [p7.2.2.2.2, sR _ _ (by decide) (by simp)]
    · have h9 : ((49 : Nat), i) ≠ (49, n1) := fun z => by cases z; omega
      rw [(p8 i hi j).1, (p8 i hi j).2]
      exact ⟨sI _ _ (by simp) h9, sR _ _ (by simp) h9⟩
    · rw [(p9 i j).1, (p9 i j).2]
      exact ⟨sI _ _ (by simp) (by simp), sR _ _ (by simp) (by simp)⟩
    · refine p10 K n th ?_
      refine cs_k_add ?_ a4 (a1.2.2.2.2.2.elim (fun w => .inl w.2.2) (fun w => .inr w.2.2.2.1))
      unfold cs_k at h ⊢
      rw [tn]
      simp only
      omega
end CSP
