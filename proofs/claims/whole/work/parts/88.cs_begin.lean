/-! A question is begun. -/
def mo_start (nv : Int) (gs : List (Int × Int × Int)) : mo_M := (0, nv, fun _ => 0, fun _ => 0, fun _ => 0, (nv, fun _ => mo_F, fun _ => [], 0, [], 0, fun _ => false), mo_bd gs 0 0, [], 0)
/-- the clauses as the desk holds them -/
def cs_Pd (S : ty_S) (P : mo_P) : Prop := cv_g S P.1 ∧ ∀ i, 0 ≤ i → i < (P.2.1 : Int) → ∃ a x, S.2.2.2.1 (11, 0) i = some a ∧ cs_cl a x ∧ cs_co S a x (P.2.2.1 i) (P.2.2.2.1 i) (P.2.2.2.2 i)
theorem cs_Pd_F {S S' : ty_S} {P : mo_P} (h : cs_Pd S P) (hf : cs_F S S') : cs_Pd S' P := by
  refine ⟨?_, fun i i0 i1 => ?_⟩
  · unfold cv_g
    rw [(hf.2.1 (19, 0) (by decide)).1, (hf.2.1 (20, 0) (by decide)).1, (hf.2.1 (21, 0) (by decide)).1, (hf.2.1 (22, 0) (by decide)).1]
    exact h.1
  · obtain ⟨a, x, q1, q2, q3⟩ := h.2 i i0 i1
    exact ⟨a, x, by rw [(hf.2.1 (11, 0) (by decide)).2.1 (by decide)]; exact q1, q2, cs_co_F hf q2 q3⟩
theorem cs_Q.C {S S' : ty_S} {u : Nat} {D1 : ai_A} {n1 c1 : Nat} {D2 : ai_A} {n2 c2 u' : Nat} {gs' : List mo_Go} {D1' : ai_A} {n1' c1' : Nat} (h : cs_Q S S' u D1 n1 c1 D2 n2 c2 u' gs' D1' n1' c1') : cs_Q (cs_C S) (cs_C S') u D1 n1 c1 D2 n2 c2 u' gs' D1' n1' c1' := by
  obtain ⟨q1, q2, q3, q4, q5, q6, q7, q8, q9⟩ := h
  refine ⟨q1, ⟨?_, ?_, q2.2.2⟩, ⟨fun b a1 a2 a3 a4 a5 j => ⟨?_, (q3.1 b a1 a2 a3 a4 a5 j).2⟩, q3.2.1, q3.2.2.1, q3.2.2.2⟩, ⟨fun j hj => ?_, q4.2⟩, ⟨?_, ?_⟩, q6, fun i hi j => ⟨?_, (q7 i hi j).2⟩, fun i j => ⟨?_, (q8 i j).2⟩, q9⟩
  · exact jd_al_keep q2.1 (cs_C_I (by decide)) rfl (fun _ => ⟨rfl, rfl⟩) (fun _ => Nat.le_refl _)
  · exact jd_al_keep q2.2.1 (cs_C_I (by decide)) rfl (fun _ => ⟨rfl, rfl⟩) (fun _ => Nat.le_refl _)
  · show (if b = (38, 0) ∧ j = 7 then 0 else if b = (38, 0) ∧ j = 5 then 0 else S'.1 b j) = (if b = (38, 0) ∧ j = 7 then 0 else if b = (38, 0) ∧ j = 5 then 0 else S.1 b j)
    rw [(q3.1 b a1 a2 a3 a4 a5 j).1]
  · rw [cs_C_I (by decide), cs_C_I (by decide)]
    exact q4.1 j hj
  · rw [cs_C_I (by decide)]
    exact q5.1
  · exact cs_td_eq (fun i _ j => ⟨cs_C_I (by simp), rfl⟩) q5.2
  · rw [cs_C_I (by simp), cs_C_I (by simp)]
    exact (q7 i hi j).1
  · rw [cs_C_I (by simp), cs_C_I (by simp)]
    exact (q8 i j).1
section CSB2
variable {L : Nat} {xs : Nat → Int32} {S : ty_S}
theorem cs_begin (d : Nat) {K : Nat × Nat} {th : Nat} (hI : cs_I S K th) {P : mo_P} (hW : mo_PW P) (hP : cs_Pd S P) {start nv : Int} {gs : List (Int × Int × Int)} (hq : cs_co S (15, 0) 12 start nv gs) (hnv : 0 ≤ nv ∧ nv ≤ 24) :
    ty_C L xs (d + 9) 38 [.inr (.inr (some (17, 0))), .inr (.inr (some (15, 0))), .inr (.inr (some (11, 0))), .inl (ty_J P.2.1)] S (ty_oV fun S' => cs_Y S' P K th (mo_start nv gs) ∧ cs_F S S') := by
  obtain ⟨B, F, E, n, D1, n1, c1, D2, n2, c2, hS, hV, hL, hn1, hn2, hk, hn⟩ := hI
  have hw2 := hW.2.1
  refine ty_enter (ml := 4) (ls := [_, _, _, _]) rfl rfl (Nat.le_of_ble_eq_true rfl) ?_
  refine ty_aload_n (pc := 0) (i := 0) (ks := []) (by decide +kernel) rfl ?_
  refine ty_aload_n (pc := 1) (i := 2) (ks := []) (by decide +kernel) rfl ?_
  refine ty_putR (pc := 2) (idx := 73) (ci := 5) (f := 5) (by decide +kernel) (by first | rfl | assumption) rfl rfl (by first | exact hS.1 _ _ rfl | assumption) ?_
  refine ty_aload_n (pc := 5) (i := 0) (ks := []) (by decide +kernel) rfl ?_
  refine ty_iload_n (pc := 6) (i := 3) (ks := []) (by decide +kernel) rfl ?_
  refine ty_putI (pc := 7) (idx := 9) (ci := 5) (f := 6) (by decide +kernel) (by first | rfl | assumption) rfl rfl (by first | exact hS.1 _ _ rfl | assumption) ?_
  refine ty_aload_n (pc := 10) (i := 0) (ks := []) (by decide +kernel) rfl ?_
  refine ty_getS (b := (13, 0)) (pc := 11) (idx := 52) (ci := 5) (f := 1) (by decide +kernel) (by first | rfl | assumption) rfl (by first | exact hS.1 _ _ rfl | assumption) (by first | exact hS.2.2 _ _ _ _ rfl | assumption) ?_
  -- at 14: .invokevirtual 77
  generalize hTa : ty_sI (ty_sR S (17, 0) 5 (some (11, 0))) (17, 0) 6 (P.2.1 : Int) = Ta
  have hSa : ty_st Ta := by rw [← hTa]; exact ty_st.sI (ty_st.sR (by decide +kernel) hS)
  have hS0 := hS
  have hS := hSa
  refine ty_callv (pc := 14) (idx := 77) (m := 39) (n := 1) (c := 2) (vs := []) (r := []) (by decide +kernel) rfl rfl (Nat.le_of_ble_eq_true rfl) (by first | rfl | assumption) (by first | exact hS.1 _ _ rfl | assumption) ((cv_clear (d + 7) hSa).deeper (by omega)) ?_
  rintro _ Tb ⟨rfl, hTb⟩
  refine ty_KV ?_
  have hSb : ty_st Tb := by rw [hTb]; exact hSa
  have hS := hSb
  refine ty_aload_n (pc := 17) (i := 0) (ks := []) (by decide +kernel) rfl ?_
  refine ty_getS (b := (39, 0)) (pc := 18) (idx := 69) (ci := 5) (f := 4) (by decide +kernel) (by first | rfl | assumption) rfl (by first | exact hS.1 _ _ rfl | assumption) (by first | exact hS.2.2 _ _ _ _ rfl | assumption) ?_
  -- at 21: .invokevirtual 82
  refine ty_callv (pc := 21) (idx := 82) (m := 40) (n := 1) (c := 9) (vs := []) (r := []) (by decide +kernel) rfl rfl (Nat.le_of_ble_eq_true rfl) (by first | rfl | assumption) (by first | exact hS.1 _ _ rfl | assumption) ((ca_clear (d + 7) hSb).deeper (by omega)) ?_
  rintro _ Tc ⟨rfl, hTc⟩
  refine ty_KV ?_
  have hSc : ty_st Tc := by rw [hTc]; exact hSb
  have hS := hSc
  refine ty_aload_n (pc := 24) (i := 0) (ks := []) (by decide +kernel) rfl ?_
  refine ty_getS (b := (37, 0)) (pc := 25) (idx := 56) (ci := 5) (f := 2) (by decide +kernel) (by first | rfl | assumption) rfl (by first | exact hS.1 _ _ rfl | assumption) (by first | exact hS.2.2 _ _ _ _ rfl | assumption) ?_
  refine ty_iconst (pc := 28) (n := 0) (ks := []) (by decide +kernel) ?_
  refine ty_putI (pc := 29) (idx := 83) (ci := 7) (f := 0) (by decide +kernel) (by first | rfl | assumption) rfl rfl (by first | exact hS.1 _ _ rfl | assumption) ?_
  refine ty_aload_n (pc := 32) (i := 0) (ks := []) (by decide +kernel) rfl ?_
  refine ty_iconst (pc := 33) (n := 0) (ks := []) (by decide +kernel) ?_
  refine ty_putI (pc := 34) (idx := 22) (ci := 5) (f := 8) (by decide +kernel) (by first | rfl | assumption) rfl rfl (by first | exact hS.1 _ _ rfl | assumption) ?_
  refine ty_aload_n (pc := 37) (i := 0) (ks := []) (by decide +kernel) rfl ?_
  refine ty_null (pc := 38) (ks := []) (by decide +kernel) ?_
  refine ty_putR (pc := 39) (idx := 86) (ci := 5) (f := 9) (by decide +kernel) (by first | rfl | assumption) rfl rfl (by first | exact hS.1 _ _ rfl | assumption) ?_
  refine ty_aload_n (pc := 42) (i := 0) (ks := []) (by decide +kernel) rfl ?_
  refine ty_iconst (pc := 43) (n := 0) (ks := []) (by decide +kernel) ?_
  refine ty_putI (pc := 44) (idx := 28) (ci := 5) (f := 11) (by decide +kernel) (by first | rfl | assumption) rfl rfl (by first | exact hS.1 _ _ rfl | assumption) ?_
  refine ty_aload_n (pc := 47) (i := 0) (ks := []) (by decide +kernel) rfl ?_
  refine ty_iconst (pc := 48) (n := 0) (ks := []) (by decide +kernel) ?_
  refine ty_putI (pc := 49) (idx := 31) (ci := 5) (f := 12) (by decide +kernel) (by first | rfl | assumption) rfl rfl (by first | exact hS.1 _ _ rfl | assumption) ?_
  -- at 52: .aload_n 0
  generalize hT : ty_sI (ty_sI (ty_sR (ty_sI (ty_sI Tc (37, 0) 0 0) (17, 0) 8 0) (17, 0) 9 none) (17, 0) 11 0) (17, 0) 12 0 = T
  have hST : ty_st T := by
    rw [← hT]
    exact ty_st.sI (ty_st.sI (ty_st.sR (by decide +kernel) (ty_st.sI (ty_st.sI hSc))))
  have e3 : T.2.2 = S.2.2 := by rw [← hT, hTc, hTb, ← hTa]; rfl
  have nI : ∀ b j, b ≠ (17, 0) → b ≠ (13, 0) → b ≠ (39, 0) → b ≠ (37, 0) → T.1 b j = S.1 b j := fun b j h1 h2 h3 h4 => by
    rw [← hT, hTc, hTb, ← hTa]
    simp [ty_sI, ty_sR, h1, h2, h3, h4]
  have nR : ∀ b j, b ≠ (17, 0) → T.2.1 b j = S.2.1 b j := fun b j h1 => by
    rw [← hT, hTc, hTb, ← hTa]
    simp [ty_sI, ty_sR, h1]
  have f1 : T.2.1 (17, 0) 5 = some (11, 0) ∧ T.2.1 (17, 0) 9 = none := by
    rw [← hT, hTc, hTb, ← hTa]
    simp [ty_sI, ty_sR]
  have f2 : T.1 (17, 0) 6 = P.2.1 ∧ T.1 (17, 0) 8 = 0 ∧ T.1 (17, 0) 11 = 0 ∧ T.1 (17, 0) 12 = 0 := by
    rw [← hT, hTc, hTb, ← hTa]
    simp [ty_sI, ty_sR]
  have f3 : T.1 (13, 0) 4 = 0 ∧ T.1 (13, 0) 5 = 0 ∧ T.1 (13, 0) 7 = 0 ∧ T.1 (13, 0) 10 = 0 ∧ T.1 (13, 0) 13 = 0 := by
    rw [← hT, hTc, hTb, ← hTa]
    simp [ty_sI, ty_sR]
  have f4 : T.1 (39, 0) 5 = 0 ∧ T.1 (39, 0) 7 = 0 ∧ T.1 (37, 0) 0 = 0 := by
    rw [← hT, hTc, hTb, ← hTa]
    simp [ty_sI, ty_sR]
  clear hT hTc hTb hTa hSa hSb hSc
  have hFT : cs_F S T := ⟨fun b a j => ⟨nI b j (cs_F_fst (cs_F_ne a rfl)) (cs_F_fst (cs_F_ne a rfl)) (cs_F_fst (cs_F_ne a rfl)) (cs_F_fst (cs_F_ne a rfl)), nR b j (cs_F_fst (cs_F_ne a rfl))⟩, fun b _ => by rw [e3]; exact ⟨rfl, fun _ => rfl, rfl⟩, by rw [e3], fun s _ => by rw [e3]⟩
  have hVT : cv_sh T B F E n := by
    unfold cv_sh
    rw [e3, nR _ _ (by decide), nR _ _ (by decide), nR _ _ (by decide)]
    exact hV
  have hqT := cs_co_F hFT (.inr ⟨rfl, rfl⟩) hq
  have hS := hST
  refine ty_aload_n (pc := 52) (i := 0) (ks := []) (by decide +kernel) rfl ?_
  refine ty_aload_n (pc := 53) (i := 1) (ks := []) (by decide +kernel) rfl ?_
  refine ty_aload_n (pc := 54) (i := 0) (ks := []) (by decide +kernel) rfl ?_
  refine ty_getS (b := (13, 0)) (pc := 55) (idx := 52) (ci := 5) (f := 1) (by decide +kernel) (by first | rfl | assumption) rfl (by first | exact hS.1 _ _ rfl | assumption) (by first | exact hS.2.2 _ _ _ _ rfl | assumption) ?_
  refine ty_aload_n (pc := 58) (i := 1) (ks := []) (by decide +kernel) rfl ?_
  refine ty_getI (pc := 59) (idx := 90) (ci := 3) (f := 6) (by decide +kernel) (by first | rfl | assumption) rfl (by first | exact hS.1 _ _ rfl | assumption) (fun v hv => ?_)
  subst hv
  -- at 62: .invokevirtual 94
  rw [hqT.2.1]
  refine ty_callv (pc := 62) (idx := 94) (m := 41) (n := 2) (c := 2) (vs := [_]) (r := [_, _]) (by decide +kernel) rfl rfl (Nat.le_of_ble_eq_true rfl) (by first | rfl | assumption) (by first | exact hS.1 _ _ rfl | assumption) ((cv_make (d + 6) hST hVT f3.1 (many := nv) ⟨Int.le_refl _, by omega, hnv.1, by omega⟩).deeper (by omega)) ?_
  rintro _ S2 ⟨z, rfl, rfl, B', F', E', n', hm⟩
  refine ty_KI ?_
  have hF2 := hm.F
  have hq2 := cs_co_F hF2 (.inr ⟨rfl, rfl⟩) hqT
  obtain ⟨m1, m2, m3, m4, m5, m6, m7, m8, m9, m10, m11, m12, m13, m14, m15⟩ := hm
  have o2 : ∀ b j, b ≠ (13, 0) → S2.1 b j = T.1 b j := fun b j hb => m3 b j (fun w => hb w.1)
  have v2 : ∀ j, j ≠ 4 → j ≠ 5 → S2.1 (13, 0) j = T.1 (13, 0) j := fun j h1 h2 => m3 _ j (fun w => w.2.elim h1 h2)
  have nn : n' = n := by
    rcases m15 with w | w
    · exact w.1
    · omega
  have hkk : cs_k S2 K n1 c1 n2 c2 n' th := by
    unfold cs_k at hk ⊢
    rcases m15 with w | w
    · rw [w.1, w.2, e3]
      exact hk
    · omega
  have cmono : ∀ s, S.2.2.2.2.2.2.1 s ≤ S2.2.2.2.2.2.2.1 s := fun s => by
    rw [← e3]
    by_cases e : s = 48
    · rw [e]; exact m14
    · rw [m13 s e]; exact Nat.le_refl _
  have keepL : ∀ (s' i' : Nat) (D : ai_A) (s k c : Nat), s' ≠ 17 → s' ≠ 13 → s' ≠ 39 → s' ≠ 37 → jd_al S (s', i') s D k c → jd_al S2 (s', i') s D k c := fun s' i' D s k c q1 q2 q3 q4 hj => by
    have w2 : ((s', i') : ai_A) ≠ (13, 0) := fun z => q2 (congrArg Prod.fst z)
    refine jd_al_keep hj ?_ ?_ (fun hD => ?_) cmono
    · rw [o2 _ _ w2]
      exact nI _ _ (fun z => q1 (congrArg Prod.fst z)) w2 (fun z => q3 (congrArg Prod.fst z)) (fun z => q4 (congrArg Prod.fst z))
    · rw [m7 _ _ w2]
      exact nR _ _ (fun z => q1 (congrArg Prod.fst z))
    · rcases hj.2.2.2.2.2 with w | ⟨w, -⟩
      · exact absurd w.1 hD
      · rw [← e3]
        exact ⟨m11 D (by omega), (m10 D (by omega) (by omega) (by omega) (by omega)).2⟩
  have hL2 : cs_L S2 D1 n1 c1 D2 n2 c2 := by
    refine ⟨keepL _ _ _ _ _ _ (by decide) (by decide) (by decide) (by decide) hL.1, keepL _ _ _ _ _ _ (by decide) (by decide) (by decide) (by decide) hL.2.1, ?_, ?_, hL.2.2.2.2⟩
    · rw [m13 49 (by decide), e3]; exact hL.2.2.1
    · rw [m13 52 (by decide), e3]; exact hL.2.2.2.1
  have u2 : S2.1 (17, 0) 8 = ((0 : Nat) : Int) := by rw [o2 _ _ (by decide)]; exact f2.2.1
  have t2 : cs_td S2 0 (S2.2.1 (17, 0) 9) [] := by
    show S2.2.1 (17, 0) 9 = none
    rw [m7 _ _ (by decide)]
    exact f1.2
  have hR2 : cs_R (cs_C S2) P K th (0, nv, fun _ => 0, fun _ => 0, fun _ => 0, (nv, fun _ => mo_F, fun _ => [], 0, [], 0, fun _ => false), [], [], 0) [] [] false B' F' E' n' D1 n1 c1 D2 n2 c2 0 0 := by
    have hPF := cs_Pd_F hP (hFT.trans hF2)
    have cI : ∀ b j, b ≠ (38, 0) → (cs_C S2).1 b j = S2.1 b j := fun b j hb => cs_C_I hb
    refine ⟨⟨m1, m2, hPF.1, ⟨?_, hnv.1, ?_⟩, ⟨?_, Int.le_refl _, by decide⟩, ?_, ⟨?_, trivial⟩, ⟨fun v v0 v1 => ?_, fun v v0 v1 _ => ?_⟩, fun e e0 e1 => by omega, ⟨?_, ?_⟩, ⟨?_, ?_⟩, by decide⟩, ⟨⟨?_, by decide⟩, fun i i0 i1 => by omega, ?_, ?_⟩, ⟨hPF.1, ?_, ?_, ?_⟩, ⟨?_, ?_, hL2.2.2⟩, ⟨?_, Nat.zero_le _, by decide, hn1, Nat.le_refl _, fun z => absurd rfl z⟩, t2, ⟨?_, Nat.zero_le _, Int.le_refl _, hn2⟩, trivial, ⟨?_, ?_, ?_⟩, hkk, by omega⟩
    · rw [cI _ _ (by decide), m4]; omega
    · omega
    · rw [cI _ _ (by decide), o2 _ _ (by decide)]; exact f4.2.2
    · show (cs_C S2).1 (38, 0) 5 = 0
      exact (ty_sI_ne (by decide)).trans ty_sI_at
    · exact ty_sI_at
    · exact (m9 v v0 (by omega)).1
    · obtain ⟨-, w1, w2⟩ := m9 v v0 (by omega)
      exact ⟨w1, w2⟩
    · rw [cI _ _ (by decide), v2 _ (by decide) (by decide), f3.2.2.1]; decide
    · rw [cI _ _ (by decide), v2 _ (by decide) (by decide), f3.2.2.1]
      intro i i0 i1
      omega
    · rw [cI _ _ (by decide), v2 _ (by decide) (by decide), f3.2.2.2.2]; decide
    · rw [cI _ _ (by decide), v2 _ (by decide) (by decide), f3.2.2.2.2]
      intro i i0 i1
      omega
    · rw [cI _ _ (by decide), o2 _ _ (by decide)]; exact f4.1
    · rw [cI _ _ (by decide), o2 _ _ (by decide), f4.2.1]; decide
    · rw [cI _ _ (by decide), o2 _ _ (by decide), f4.2.1]
      intro i i0 i1
      omega
    · show S2.2.1 (17, 0) 5 = _
      rw [m7 _ _ (by decide)]; exact f1.1
    · rw [cI _ _ (by decide), o2 _ _ (by decide)]; exact f2.1
    · intro i i0 i1
      obtain ⟨a, x, q1, q2, q3⟩ := hPF.2 i i0 i1
      exact ⟨a, x, q1, q2, cs_co_F cs_C_F q2 q3⟩
    · exact jd_al_keep hL2.1 (cI _ _ (by decide)) rfl (fun _ => ⟨rfl, rfl⟩) (fun _ => Nat.le_refl _)
    · exact jd_al_keep hL2.2.1 (cI _ _ (by decide)) rfl (fun _ => ⟨rfl, rfl⟩) (fun _ => Nat.le_refl _)
    · rw [cI _ _ (by decide)]; exact u2
    · rw [cI _ _ (by decide), o2 _ _ (by decide)]; exact f2.2.2.1
    · rw [cI _ _ (by decide), m5, f3.2.1]; omega
    · rw [cI _ _ (by decide), v2 _ (by decide) (by decide)]; exact f3.2.2.2.1
    · rw [cI _ _ (by decide), o2 _ _ (by decide)]; exact f2.2.2.2
  have hS := m1
  refine ty_iconst (pc := 65) (n := 0) (ks := []) (by decide +kernel) ?_
  -- at 66: .invokevirtual 98
  refine ty_callv (pc := 66) (idx := 98) (m := 43) (n := 4) (c := 5) (vs := [_, _, _]) (r := []) (by decide +kernel) rfl rfl (Nat.le_of_ble_eq_true rfl) (by first | rfl | assumption) (by first | exact hS.1 _ _ rfl | assumption) (cs_putBody d m1 hL2 u2 (Nat.zero_le _) (by omega) t2 (.inr ⟨rfl, rfl⟩) hq2) ?_
  rintro _ S3 ⟨rfl, D1', n1', c1', hQ⟩
  refine ty_KV ?_
  refine ty_ret_v (pc := 69) (ks := []) (by decide +kernel) rfl ?_
  have h24 := hq2.2.2.2.1
  refine ⟨rfl, ?_, (hFT.trans hF2).trans hQ.2.2.1.F⟩
  have hRf := cs_R_front hR2 hQ.C (by omega)
  rw [List.append_nil] at hRf
  exact ⟨_, _, _, _, _, _, _, _, _, _, _, _, hRf⟩
end CSB2
