/-! The law's calls, one by one. -/
section LWO
variable {L : Nat} {xs : Nat → Int32} {S : ty_S}
theorem lw_mv {S' : ty_S} (eI : lw_I S' = lw_I S) (eM : lw_M S' = lw_M S) {d mi : Nat} {av : List ai_V} {Q : ai_O → ty_S → Prop} (h : ty_C L xs d mi av (rm_s S' (lw_I S) (lw_M S)) Q) : ty_C L xs d mi av S' Q := by
  rw [← eI, ← eM, lw_self] at h
  exact h
theorem rm_R_none {S0 S1 : ty_S} {I : Nat → Int} {A : Nat → Int → Int} {tau : dk_T} {s : Nat → Nat} {tx : List Int} {pl : Int} {m : Nat} (h : rm_R S0 I A tau s tx pl m none) : rm_R S1 I A tau s tx pl m none := ⟨h.1, h.2.1, h.2.2.1, h.2.2.2.1, h.2.2.2.2.1, trivial⟩
theorem rm_R_tq {S0 : ty_S} {I : Nat → Int} {A : Nat → Int → Int} {tau : dk_T} {s : Nat → Nat} {tx : List Int} {pl : Int} {m : Nat} (hs : dk_s tau s m) (h : rm_R S0 I A tau s tx pl m none) : rm_R S0 I A (dk_tq tau) s tx pl m none := ⟨h.1, h.2.1, rp_e h.2.2.1 (fun i hi => if_neg (by have := (hs.2 i hi).1; omega)), h.2.2.2.1, h.2.2.2.2.1, trivial⟩
theorem lw_md {S0 : ty_S} {I : Nat → Int} {A : Nat → Int → Int} {tau : dk_T} {s : Nat → Nat} {tx : List Int} {pl : Int} {m : Nat} {as : Option mo_M} (h : rm_R S0 I A tau s tx pl m as) : ∀ M q, as = some M → tau 12 = some q → dk_made q M := by
  intro M q hM hq
  subst hM
  obtain ⟨⟨q', hq', hQ⟩, -⟩ := h.2.2.2.2.2
  rw [hq] at hq'
  cases hq'
  exact hQ.1
theorem cw_s_W {k : Int} {f : Int → Int} : dk_W S (cw_s S k f) := by
  refine ⟨fun b a c => ⟨fun j => ⟨if_neg (fun z => by rw [z.1] at a; exact absurd a (by decide)), rfl⟩, if_neg (fun z => by rw [z] at a; exact absurd a (by decide)), rfl, rfl⟩, rfl, fun _ _ => rfl⟩
theorem dk_R_cw {k : Int} {f : Int → Int} {K : Nat × Nat} {th : Nat} {tau : dk_T} {s : Nat → Nat} {tx : List Int} {pl : Int} {m : Nat} {as : Option mo_M} (h : dk_R S K th tau s tx pl m as) : dk_R (cw_s S k f) K th tau s tx pl m as := by
  have eI : ∀ (b : ai_A) (j : Nat), b ≠ (18, 0) → (cw_s S k f).1 b j = S.1 b j := fun b j hb => if_neg (fun z => hb z.1)
  have eA : ∀ b : ai_A, b ≠ (47, 0) → (cw_s S k f).2.2.1 b = S.2.2.1 b := fun b hb => if_neg hb
  obtain ⟨x1, x2, x3, x4, x5⟩ := h.2.2.2.1
  refine dk_R_keep h ⟨h.1, fun b a j => ⟨eI b j (fun z => by rw [z] at a; exact absurd a (by decide)), rfl⟩, fun b a => ⟨eA b (fun z => by rw [z] at a; exact absurd a (by decide)), rfl, rfl⟩, fun _ => Nat.le_refl _, rfl, rfl⟩ (fun b hb j => eI b j (fun z => by rw [z] at hb; exact absurd hb (by decide))) (fun b hb => eA b (fun z => by rw [z] at hb; exact absurd hb (by decide))) rfl (eI _ _ (by decide)) ⟨(eI _ _ (by decide)).trans x1, x2, x3, ?_, ?_⟩ ⟨(eI _ _ (by decide)).trans h.2.2.2.2.1.1, h.2.2.2.2.1.2⟩ (eI _ _ (by decide)) (fun _ _ _ _ _ z => z)
  · rw [eA _ (by decide)]
    exact x4
  · rw [eA _ (by decide)]
    exact x5
theorem dk_ltr_e {G : mo_G} {tau : dk_T} {as : Option mo_M} {v i : Int} {e : Nat} (h : dk_ltr G tau as v i = .inl e) : e = 0 ∨ e = 2 := by
  unfold dk_ltr at h
  split at h
  · cases h; exact .inl rfl
  · split at h
    · cases h; exact .inr rfl
    · split at h
      · cases h; exact .inr rfl
      · split at h
        · cases h
        · split at h
          · cases h; exact .inr rfl
          · cases h
theorem dk_slp_e {G : mo_G} {tau : dk_T} {as : Option mo_M} {v : Int} {e : Nat} (h : dk_slp G tau as v = .inl e) : e = 0 := by
  unfold dk_slp at h
  split at h
  · cases h; rfl
  · split at h
    · cases h
    · split at h
      · cases h
      · cases h
theorem ty_sZ_0 {v : Int64} : (ty_sZ S 0 v).2.2.2.2.1 0 = v := by
  show (if (0 : Int) = 0 then v else S.2.2.2.2.1 0) = v
  exact if_pos rfl
theorem dk_sk_o {R : Int × mo_M} : dk_o (dk_sk R).1 = .inr 2 ∨ dk_o (dk_sk R).1 = .inr 1 ∨ dk_o (dk_sk R).1 = .inr 3 ∨ ∃ z, dk_o (dk_sk R).1 = .inl (some (.inl (ty_J z))) := by
  unfold dk_sk
  by_cases e : R.1 = 1
  · rw [if_pos e]
    exact .inr (.inr (.inr ⟨_, rfl⟩))
  · rw [if_neg e]
    by_cases e0 : R.1 = 0
    · rw [if_pos e0]
      exact .inl rfl
    · rw [if_neg e0]
      by_cases e2 : R.1 = 2
      · rw [if_pos e2]
        exact .inr (.inl rfl)
      · rw [if_neg e2]
        exact .inr (.inr (.inl rfl))
theorem rl_a_r {e : Nat} : 1 ≤ rl_a e ∧ rl_a e ≤ 4 := by
  unfold rl_a
  split
  · decide
  · split
    · decide
    · split <;> decide
theorem rl_n_r {e : Nat} : 1 ≤ rl_n e ∧ rl_n e ≤ 4 := by
  unfold rl_n
  split
  · decide
  · split <;> decide
theorem ty_icmp_same {d mi pc : Nat} {ls : ai_L} {st : List ai_V} {Q : ai_O → ty_S → Prop} {off : Int} {t : Nat} {ks : List Nat} {x : Int32} (row : gt_P.1 mi pc = some (1, .if_icmp .eq off, t :: ks)) (k : ty_W L xs d mi t ls st S Q) : ty_W L xs d mi pc ls (.inl x :: .inl x :: st) S Q := ty_jmp row (by simp [ai_jmp, ai_cmp]) k
theorem lw_o_type (d : Nat) {K : Nat × Nat} {th : Nat} (hR : lw_R S K th) (h93 : S.2.2.2.2.2.2.1 95 = 1) {i : Int} (hi : 0 ≤ i ∧ i + 2 < L ∧ (L : Int) ≤ 2147480000) {x5 x6 : Option Int32} {Q : ai_O → ty_S → Prop} (cont : ∀ (S' : ty_S) (th' : Nat) (x5 x6 : Option Int32), th' ≤ th + 1 → lw_R S' K th' → S'.2.2.2.2.2.2.1 95 = 1 → ty_W L xs (d + 50) 150 489 [some (.inr (.inr (some (0, 0)))), some (.inr (.inr (some (93, 0)))), some (.inr (.inr (some (94, 0)))), some (.inr (.inr (some (95, 0)))), some (.inl (ty_J i)), x5.map .inl, x6.map .inl] [] S' Q) :
    ty_W L xs (d + 50) 150 84 [some (.inr (.inr (some (0, 0)))), some (.inr (.inr (some (93, 0)))), some (.inr (.inr (some (94, 0)))), some (.inr (.inr (some (95, 0)))), some (.inl (ty_J i)), x5.map .inl, x6.map .inl] [] S Q := by
  obtain ⟨tau, s, tx, pl, m, as, hD, hM⟩ := hR
  have hS := hD.1
  refine ty_aload_n (pc := 84) (i := 1) (ks := []) (by decide +kernel) rfl ?_
  refine ty_aload_n (pc := 85) (i := 0) (ks := []) (by decide +kernel) rfl ?_
  refine ty_iload (pc := 86) (i := 4) (ks := []) (by decide +kernel) rfl ?_
  refine ty_iconst (pc := 88) (n := 1) (ks := []) (by decide +kernel) ?_
  refine ty_iadd (pc := 89) (ks := []) (by decide +kernel) ?_
  refine ty_sload (pc := 90) (ks := []) (by decide +kernel) (by first | exact hS.1 _ _ rfl | assumption) (by omega) ?_
  refine ty_pure (pc := 91) (ins := .i2l) (ks := []) (by decide +kernel) rfl ?_
  refine ty_bipush (pc := 92) (n := 32) (ks := []) (by decide +kernel) (by omega) ?_
  refine ty_pure (pc := 94) (ins := .lshl) (ks := []) (by decide +kernel) rfl ?_
  refine ty_aload_n (pc := 95) (i := 0) (ks := []) (by decide +kernel) rfl ?_
  refine ty_iload (pc := 96) (i := 4) (ks := []) (by decide +kernel) rfl ?_
  refine ty_iconst (pc := 98) (n := 2) (ks := []) (by decide +kernel) ?_
  refine ty_iadd (pc := 99) (ks := []) (by decide +kernel) ?_
  refine ty_sload (pc := 100) (ks := []) (by decide +kernel) (by first | exact hS.1 _ _ rfl | assumption) (by omega) ?_
  refine ty_pure (pc := 101) (ins := .i2l) (ks := []) (by decide +kernel) rfl ?_
  refine ty_heap (pc := 102) (ins := .ldc2_w 47) (ks := [4294967295]) (by decide +kernel) rfl ?_
  refine ty_pure (pc := 105) (ins := .land) (ks := []) (by decide +kernel) rfl ?_
  refine ty_pure (pc := 106) (ins := .lor) (ks := []) (by decide +kernel) rfl ?_
  refine ty_aload_n (pc := 107) (i := 3) (ks := []) (by decide +kernel) rfl ?_
  -- at 108: .invokestatic 49
  have hC := fun e : Int64 => lw_type (L := L) (xs := xs) (S := S) (e := e) 40 hS ((dk_type (L := L) (xs := xs) 0 hD e).deeper (by omega)) (fun o S1 hq => by
      obtain ⟨w1, w2, ⟨-, ho, c⟩ | ⟨-, -, ho, c⟩ | ⟨-, -, ho, c⟩⟩ := hq
      · exact ⟨c.1, (w1.2.2 _ (by decide)).trans h93, .inl ho⟩
      · exact ⟨c.1, (w1.2.2 _ (by decide)).trans h93, .inr (.inl ho)⟩
      · exact ⟨c.1, (w1.2.2 _ (by decide)).trans h93, .inr (.inr ⟨_, ho⟩)⟩)
  refine ty_calls (pc := 108) (idx := 49) (m := 15) (n := 3) (c := 0) (av := [_, _, _]) (r := []) (by decide +kernel) rfl rfl (Nat.le_of_ble_eq_true rfl) ((hC _).deeper (by omega)) ?_
  rintro _ S' ⟨k, rfl, o, S1, ⟨w1, w2, hcase⟩, hk⟩
  refine ty_KI ?_
  rcases hcase with ⟨c1, rfl, c2⟩ | ⟨c1, c1', rfl, c2⟩ | ⟨c1, c1', rfl, c2⟩
  · obtain ⟨rfl, rfl⟩ : k = 1 ∧ S' = ty_ex S1 := hk
    have hD' := dk_R_ex c2
    have hS := hD'.1
    refine ty_istore (pc := 111) (i := 5) (ks := []) (ls' := [_, _, _, _, _, _, _]) (by decide +kernel) rfl ?_
    refine ty_aload_n (pc := 113) (i := 2) (ks := []) (by decide +kernel) rfl ?_
    refine ty_aload_n (pc := 114) (i := 0) (ks := []) (by decide +kernel) rfl ?_
    refine ty_iload (pc := 115) (i := 4) (ks := []) (by decide +kernel) rfl ?_
    refine ty_iconst (pc := 117) (n := 1) (ks := []) (by decide +kernel) ?_
    refine ty_iadd (pc := 118) (ks := []) (by decide +kernel) ?_
    refine ty_sload (pc := 119) (ks := []) (by decide +kernel) (by first | exact hS.1 _ _ rfl | assumption) (by omega) ?_
    refine ty_pure (pc := 120) (ins := .i2l) (ks := []) (by decide +kernel) rfl ?_
    refine ty_bipush (pc := 121) (n := 32) (ks := []) (by decide +kernel) (by omega) ?_
    refine ty_pure (pc := 123) (ins := .lshl) (ks := []) (by decide +kernel) rfl ?_
    refine ty_aload_n (pc := 124) (i := 0) (ks := []) (by decide +kernel) rfl ?_
    refine ty_iload (pc := 125) (i := 4) (ks := []) (by decide +kernel) rfl ?_
    refine ty_iconst (pc := 127) (n := 2) (ks := []) (by decide +kernel) ?_
    refine ty_iadd (pc := 128) (ks := []) (by decide +kernel) ?_
    refine ty_sload (pc := 129) (ks := []) (by decide +kernel) (by first | exact hS.1 _ _ rfl | assumption) (by omega) ?_
    refine ty_pure (pc := 130) (ins := .i2l) (ks := []) (by decide +kernel) rfl ?_
    refine ty_heap (pc := 131) (ins := .ldc2_w 47) (ks := [4294967295]) (by decide +kernel) rfl ?_
    refine ty_pure (pc := 134) (ins := .land) (ks := []) (by decide +kernel) rfl ?_
    refine ty_pure (pc := 135) (ins := .lor) (ks := []) (by decide +kernel) rfl ?_
    -- at 136: .invokevirtual 54
    refine ty_callv (pc := 136) (idx := 54) (m := 104) (n := 2) (c := 13) (vs := [_]) (r := []) (by decide +kernel) rfl rfl (Nat.le_of_ble_eq_true rfl) (by first | rfl | assumption) (by first | exact hS.1 _ _ rfl | assumption) (lw_mv (S := S) (by have h := lw_W_I w1; exact h) (by have h := lw_W_M w1; exact h) ((rm_typeR (L := L) (xs := xs) (S := ty_ex S1) (S0 := S) 0 hS hM hD.2.1 (dk_MI hD) _).deeper (by omega))) ?_
    rintro _ S2 ⟨z, rfl, I', A', rfl, hm⟩
    refine ty_KI ?_
    rcases hm with ⟨-, h2, h3⟩ | ⟨h1, -⟩ | ⟨h1, -⟩
    · exact lw_t_type _ hS h2 (by decide) (fun h => absurd h (by decide)) (cont _ (th + 1) (some (ty_J 1)) (some (ty_J z)) (Nat.le_refl _) (lw_up hD' (rm_R_rows hD.2.1 hD'.2.1 (dk_MI hD) h3)) (by have h := (w1.2.2 _ (by decide)).trans h93; exact h))
    · exact absurd c1 h1
    · exact absurd c1 h1
  · obtain ⟨rfl, rfl⟩ : k = 2 ∧ S' = ty_ex S1 := hk
    have hD' := dk_R_ex c2
    have hS := hD'.1
    refine ty_istore (pc := 111) (i := 5) (ks := []) (ls' := [_, _, _, _, _, _, _]) (by decide +kernel) rfl ?_
    refine ty_aload_n (pc := 113) (i := 2) (ks := []) (by decide +kernel) rfl ?_
    refine ty_aload_n (pc := 114) (i := 0) (ks := []) (by decide +kernel) rfl ?_
    refine ty_iload (pc := 115) (i := 4) (ks := []) (by decide +kernel) rfl ?_
    refine ty_iconst (pc := 117) (n := 1) (ks := []) (by decide +kernel) ?_
    refine ty_iadd (pc := 118) (ks := []) (by decide +kernel) ?_
    refine ty_sload (pc := 119) (ks := []) (by decide +kernel) (by first | exact hS.1 _ _ rfl | assumption) (by omega) ?_
    refine ty_pure (pc := 120) (ins := .i2l) (ks := []) (by decide +kernel) rfl ?_
    refine ty_bipush (pc := 121) (n := 32) (ks := []) (by decide +kernel) (by omega) ?_
    refine ty_pure (pc := 123) (ins := .lshl) (ks := []) (by decide +kernel) rfl ?_
    refine ty_aload_n (pc := 124) (i := 0) (ks := []) (by decide +kernel) rfl ?_
    refine ty_iload (pc := 125) (i := 4) (ks := []) (by decide +kernel) rfl ?_
    refine ty_iconst (pc := 127) (n := 2) (ks := []) (by decide +kernel) ?_
    refine ty_iadd (pc := 128) (ks := []) (by decide +kernel) ?_
    refine ty_sload (pc := 129) (ks := []) (by decide +kernel) (by first | exact hS.1 _ _ rfl | assumption) (by omega) ?_
    refine ty_pure (pc := 130) (ins := .i2l) (ks := []) (by decide +kernel) rfl ?_
    refine ty_heap (pc := 131) (ins := .ldc2_w 47) (ks := [4294967295]) (by decide +kernel) rfl ?_
    refine ty_pure (pc := 134) (ins := .land) (ks := []) (by decide +kernel) rfl ?_
    refine ty_pure (pc := 135) (ins := .lor) (ks := []) (by decide +kernel) rfl ?_
    -- at 136: .invokevirtual 54
    refine ty_callv (pc := 136) (idx := 54) (m := 104) (n := 2) (c := 13) (vs := [_]) (r := []) (by decide +kernel) rfl rfl (Nat.le_of_ble_eq_true rfl) (by first | rfl | assumption) (by first | exact hS.1 _ _ rfl | assumption) (lw_mv (S := S) (by have h := lw_W_I w1; exact h) (by have h := lw_W_M w1; exact h) ((rm_typeR (L := L) (xs := xs) (S := ty_ex S1) (S0 := S) 0 hS hM hD.2.1 (dk_MI hD) _).deeper (by omega))) ?_
    rintro _ S2 ⟨z, rfl, I', A', rfl, hm⟩
    refine ty_KI ?_
    rcases hm with ⟨h1, -⟩ | ⟨-, -, h2, h3⟩ | ⟨-, h1, -⟩
    · exact absurd h1 c1
    · exact lw_t_type _ hS h2 (by decide) (fun h => absurd h (by decide)) (cont _ (th + 1) (some (ty_J 2)) (some (ty_J z)) (Nat.le_refl _) (lw_up hD' (rm_R_rows hD.2.1 hD'.2.1 (dk_MI hD) h3)) (by have h := (w1.2.2 _ (by decide)).trans h93; exact h))
    · omega
  · obtain ⟨rfl, hS9⟩ : k = 0 ∧ S' = ty_sZ S1 0 _ := hk
    obtain ⟨v, hv, rfl⟩ : ∃ v, v = _ ∧ S' = ty_sZ S1 0 v := ⟨_, rfl, hS9⟩
    have hD' := dk_R_Z (i := 0) (v := v) c2
    have hS := hD'.1
    refine ty_istore (pc := 111) (i := 5) (ks := []) (ls' := [_, _, _, _, _, _, _]) (by decide +kernel) rfl ?_
    refine ty_aload_n (pc := 113) (i := 2) (ks := []) (by decide +kernel) rfl ?_
    refine ty_aload_n (pc := 114) (i := 0) (ks := []) (by decide +kernel) rfl ?_
    refine ty_iload (pc := 115) (i := 4) (ks := []) (by decide +kernel) rfl ?_
    refine ty_iconst (pc := 117) (n := 1) (ks := []) (by decide +kernel) ?_
    refine ty_iadd (pc := 118) (ks := []) (by decide +kernel) ?_
    refine ty_sload (pc := 119) (ks := []) (by decide +kernel) (by first | exact hS.1 _ _ rfl | assumption) (by omega) ?_
    refine ty_pure (pc := 120) (ins := .i2l) (ks := []) (by decide +kernel) rfl ?_
    refine ty_bipush (pc := 121) (n := 32) (ks := []) (by decide +kernel) (by omega) ?_
    refine ty_pure (pc := 123) (ins := .lshl) (ks := []) (by decide +kernel) rfl ?_
    refine ty_aload_n (pc := 124) (i := 0) (ks := []) (by decide +kernel) rfl ?_
    refine ty_iload (pc := 125) (i := 4) (ks := []) (by decide +kernel) rfl ?_
    refine ty_iconst (pc := 127) (n := 2) (ks := []) (by decide +kernel) ?_
    refine ty_iadd (pc := 128) (ks := []) (by decide +kernel) ?_
    refine ty_sload (pc := 129) (ks := []) (by decide +kernel) (by first | exact hS.1 _ _ rfl | assumption) (by omega) ?_
    refine ty_pure (pc := 130) (ins := .i2l) (ks := []) (by decide +kernel) rfl ?_
    refine ty_heap (pc := 131) (ins := .ldc2_w 47) (ks := [4294967295]) (by decide +kernel) rfl ?_
    refine ty_pure (pc := 134) (ins := .land) (ks := []) (by decide +kernel) rfl ?_
    refine ty_pure (pc := 135) (ins := .lor) (ks := []) (by decide +kernel) rfl ?_
    -- at 136: .invokevirtual 54
    refine ty_callv (pc := 136) (idx := 54) (m := 104) (n := 2) (c := 13) (vs := [_]) (r := []) (by decide +kernel) rfl rfl (Nat.le_of_ble_eq_true rfl) (by first | rfl | assumption) (by first | exact hS.1 _ _ rfl | assumption) (lw_mv (S := S) (by have h := lw_W_I w1; exact h) (by have h := lw_W_M w1; exact h) ((rm_typeR (L := L) (xs := xs) (S := ty_sZ S1 0 v) (S0 := S) 0 hS hM hD.2.1 (dk_MI hD) _).deeper (by omega))) ?_
    rintro _ S2 ⟨z, rfl, I', A', rfl, hm⟩
    refine ty_KI ?_
    rcases hm with ⟨h1, -⟩ | ⟨-, h1, -⟩ | ⟨-, -, h2, hz, h3⟩
    · exact absurd h1 c1
    · omega
    · refine lw_t_type _ hS h2 (by decide) (fun _ => ?_) (cont _ th (some (ty_J 0)) (some (ty_J z)) (by omega) (lw_up hD' (rm_R_rows hD.2.1 hD'.2.1 (dk_MI hD) h3)) ((w1.2.2 _ (by decide)).trans h93))
      rw [hz]
      exact hv
theorem lw_o_add (d : Nat) {K : Nat × Nat} {th : Nat} (hR : lw_R S K th) (h93 : S.2.2.2.2.2.2.1 95 = 1) {i : Int} (hi : 0 ≤ i ∧ i + 2 < L ∧ (L : Int) ≤ 2147480000) {x5 x6 : Option Int32} {Q : ai_O → ty_S → Prop} (cont : ∀ (S' : ty_S) (th' : Nat) (x5 x6 : Option Int32), th' ≤ th + 1 → lw_R S' K th' → S'.2.2.2.2.2.2.1 95 = 1 → ty_W L xs (d + 50) 150 489 [some (.inr (.inr (some (0, 0)))), some (.inr (.inr (some (93, 0)))), some (.inr (.inr (some (94, 0)))), some (.inr (.inr (some (95, 0)))), some (.inl (ty_J i)), x5.map .inl, x6.map .inl] [] S' Q) :
    ty_W L xs (d + 50) 150 172 [some (.inr (.inr (some (0, 0)))), some (.inr (.inr (some (93, 0)))), some (.inr (.inr (some (94, 0)))), some (.inr (.inr (some (95, 0)))), some (.inl (ty_J i)), x5.map .inl, x6.map .inl] [] S Q := by
  obtain ⟨tau, s, tx, pl, m, as, hD, hM⟩ := hR
  have hS := hD.1
  have hL := hD.2.2.1
  have hm12 := hL.1.1
  refine ty_aload_n (pc := 172) (i := 1) (ks := []) (by decide +kernel) rfl ?_
  refine ty_aload_n (pc := 173) (i := 3) (ks := []) (by decide +kernel) rfl ?_
  -- at 174: .invokestatic 58
  have hC := lw_add (L := L) (xs := xs) (S := S) 40 hS ((dk_add (L := L) (xs := xs) 0 hD).deeper (by omega)) (fun o S1 hq => by
      obtain ⟨w1, th', -, ⟨-, ho, c, -⟩ | ⟨-, -, ho, c⟩ | ⟨-, -, ho, c⟩⟩ := hq
      · exact ⟨c.1, (w1.2.2 _ (by decide)).trans h93, .inr (.inl ho)⟩
      · exact ⟨c.1, (w1.2.2 _ (by decide)).trans h93, .inl ho⟩
      · exact ⟨c.1, (w1.2.2 _ (by decide)).trans h93, .inr (.inr ⟨_, ho⟩)⟩)
  refine ty_calls (pc := 174) (idx := 58) (m := 17) (n := 2) (c := 0) (av := [_, _]) (r := []) (by decide +kernel) rfl rfl (Nat.le_of_ble_eq_true rfl) (hC.deeper (by omega)) ?_
  rintro _ S' ⟨k, rfl, o, S1, ⟨w1, th', hth, hcase⟩, hk⟩
  refine ty_KI ?_
  have hAd := fun (T : ty_S) (hT : ty_st T) => rm_add (L := L) (xs := xs) (S := T) (S0 := S) 0 hT hM hD.2.1 hL.1 (fun i hi h12 z => absurd (hL.2.2.1 i m (by omega) h12 z) (by omega)) (dk_MI hD)
  rcases hcase with ⟨c1, rfl, c2, -⟩ | ⟨c1, c1', rfl, c2⟩ | ⟨c1, c1', rfl, c2⟩
  · obtain ⟨rfl, rfl⟩ : k = 2 ∧ S' = ty_ex S1 := hk
    have hD' := dk_R_ex c2
    have hS := hD'.1
    refine ty_istore (pc := 177) (i := 5) (ks := []) (ls' := [_, _, _, _, _, _, _]) (by decide +kernel) rfl ?_
    refine ty_aload_n (pc := 179) (i := 2) (ks := []) (by decide +kernel) rfl ?_
    -- at 180: .invokevirtual 61
    refine ty_callv (pc := 180) (idx := 61) (m := 108) (n := 1) (c := 13) (vs := []) (r := []) (by decide +kernel) rfl rfl (Nat.le_of_ble_eq_true rfl) (by first | rfl | assumption) (by first | exact hS.1 _ _ rfl | assumption) (lw_mv (S := S) (by have h := lw_W_I w1; exact h) (by have h := lw_W_M w1; exact h) ((hAd _ hS).deeper (by omega))) ?_
    rintro _ S2 ⟨z, rfl, I', A', rfl, hm⟩
    refine ty_KI ?_
    rcases hm with ⟨-, h2, h3⟩ | ⟨h1, -⟩ | ⟨h1, -⟩
    · exact lw_t_add _ hS h2 (by decide) (fun h => absurd h (by decide)) (cont _ th' (some (ty_J 2)) (some (ty_J z)) hth (lw_up hD' (rm_R_rows hD.2.1 hD'.2.1 (dk_MI hD) h3)) (by have h := (w1.2.2 _ (by decide)).trans h93; exact h))
    · omega
    · omega
  · obtain ⟨rfl, rfl⟩ : k = 1 ∧ S' = ty_ex S1 := hk
    have hD' := dk_R_ex c2
    have hS := hD'.1
    refine ty_istore (pc := 177) (i := 5) (ks := []) (ls' := [_, _, _, _, _, _, _]) (by decide +kernel) rfl ?_
    refine ty_aload_n (pc := 179) (i := 2) (ks := []) (by decide +kernel) rfl ?_
    -- at 180: .invokevirtual 61
    refine ty_callv (pc := 180) (idx := 61) (m := 108) (n := 1) (c := 13) (vs := []) (r := []) (by decide +kernel) rfl rfl (Nat.le_of_ble_eq_true rfl) (by first | rfl | assumption) (by first | exact hS.1 _ _ rfl | assumption) (lw_mv (S := S) (by have h := lw_W_I w1; exact h) (by have h := lw_W_M w1; exact h) ((hAd _ hS).deeper (by omega))) ?_
    rintro _ S2 ⟨z, rfl, I', A', rfl, hm⟩
    refine ty_KI ?_
    rcases hm with ⟨h1, -⟩ | ⟨-, -, h2, h3⟩ | ⟨-, h1, -⟩
    · omega
    · exact lw_t_add _ hS h2 (by decide) (fun h => absurd h (by decide)) (cont _ th' (some (ty_J 1)) (some (ty_J z)) hth (lw_up hD' (rm_R_rows hD.2.1 hD'.2.1 (dk_MI hD) h3)) (by have h := (w1.2.2 _ (by decide)).trans h93; exact h))
    · rw [c1'] at h1
      exact absurd h1 (by decide)
  · obtain ⟨rfl, rfl⟩ : k = 0 ∧ S' = ty_sZ S1 0 (ty_J ((m : Int) + 1)).toInt64 := hk
    have hD' := dk_R_Z (i := 0) (v := (ty_J ((m : Int) + 1)).toInt64) c2
    have hS := hD'.1
    refine ty_istore (pc := 177) (i := 5) (ks := []) (ls' := [_, _, _, _, _, _, _]) (by decide +kernel) rfl ?_
    refine ty_aload_n (pc := 179) (i := 2) (ks := []) (by decide +kernel) rfl ?_
    -- at 180: .invokevirtual 61
    refine ty_callv (pc := 180) (idx := 61) (m := 108) (n := 1) (c := 13) (vs := []) (r := []) (by decide +kernel) rfl rfl (Nat.le_of_ble_eq_true rfl) (by first | rfl | assumption) (by first | exact hS.1 _ _ rfl | assumption) (lw_mv (S := S) (by have h := lw_W_I w1; exact h) (by have h := lw_W_M w1; exact h) ((hAd _ hS).deeper (by omega))) ?_
    rintro _ S2 ⟨z, rfl, I', A', rfl, hm⟩
    refine ty_KI ?_
    rcases hm with ⟨h1, -⟩ | ⟨-, h1, -⟩ | ⟨-, -, h2, hz, h3⟩
    · omega
    · rw [c1'] at h1
      exact absurd h1 (by decide)
    · refine lw_t_add _ hS h2 (by decide) (fun _ => ?_) (cont _ th' (some (ty_J 0)) (some (ty_J z)) hth (lw_up hD' (rm_R_none h3)) ((w1.2.2 _ (by decide)).trans h93))
      rw [hz]
      exact ty_sZ_0
theorem lw_o_drop (d : Nat) {K : Nat × Nat} {th : Nat} (hR : lw_R S K th) (h93 : S.2.2.2.2.2.2.1 95 = 1) {i : Int} (hi : 0 ≤ i ∧ i + 2 < L ∧ (L : Int) ≤ 2147480000) {x5 x6 : Option Int32} {Q : ai_O → ty_S → Prop} (cont : ∀ (S' : ty_S) (th' : Nat) (x5 x6 : Option Int32), th' ≤ th + 1 → lw_R S' K th' → S'.2.2.2.2.2.2.1 95 = 1 → ty_W L xs (d + 50) 150 489 [some (.inr (.inr (some (0, 0)))), some (.inr (.inr (some (93, 0)))), some (.inr (.inr (some (94, 0)))), some (.inr (.inr (some (95, 0)))), some (.inl (ty_J i)), x5.map .inl, x6.map .inl] [] S' Q) :
    ty_W L xs (d + 50) 150 216 [some (.inr (.inr (some (0, 0)))), some (.inr (.inr (some (93, 0)))), some (.inr (.inr (some (94, 0)))), some (.inr (.inr (some (95, 0)))), some (.inl (ty_J i)), x5.map .inl, x6.map .inl] [] S Q := by
  obtain ⟨tau, s, tx, pl, m, as, hD, hM⟩ := hR
  have hS := hD.1
  obtain ⟨p, hp, hpr⟩ : ∃ p : Int, xs (i + 1).toNat = ty_J p ∧ -2147483648 ≤ p ∧ p ≤ 2147483647 := ⟨(xs (i + 1).toNat).toInt, (ty_J_of _).symm, ty_toInt_r _⟩
  have hL := hD.2.2.1
  refine ty_aload_n (pc := 216) (i := 1) (ks := []) (by decide +kernel) rfl ?_
  refine ty_aload_n (pc := 217) (i := 0) (ks := []) (by decide +kernel) rfl ?_
  refine ty_iload (pc := 218) (i := 4) (ks := []) (by decide +kernel) rfl ?_
  refine ty_iconst (pc := 220) (n := 1) (ks := []) (by decide +kernel) ?_
  refine ty_iadd (pc := 221) (ks := []) (by decide +kernel) ?_
  refine ty_sload (pc := 222) (ks := []) (by decide +kernel) (by first | exact hS.1 _ _ rfl | assumption) (by omega) ?_
  -- at 223: .invokestatic 62
  rw [hp]
  have hC := lw_drop (L := L) (xs := xs) (S := S) 40 hS ((dk_drop (L := L) (xs := xs) 0 hD hpr).deeper (by omega)) (fun o S1 hq => by
      obtain ⟨w1, ⟨-, ho, rfl⟩ | ⟨-, -, ho, c⟩⟩ := hq
      · exact ⟨hS, h93, .inl ho⟩
      · exact ⟨c.1, (w1.2.2 _ (by decide)).trans h93, .inr ho⟩)
  refine ty_calls (pc := 223) (idx := 62) (m := 33) (n := 2) (c := 0) (av := [_, _]) (r := []) (by decide +kernel) rfl rfl (Nat.le_of_ble_eq_true rfl) (hC.deeper (by omega)) ?_
  rintro _ S' ⟨k, rfl, o, S1, ⟨w1, hcase⟩, hk⟩
  refine ty_KI ?_
  have hAd := fun (T : ty_S) (hT : ty_st T) => rm_drop (L := L) (xs := xs) (S := T) (S0 := S) 0 hT hM hD.2.1 hL.1 (fun i j hi hj z => hL.2.2.1 i j (by have := hL.1.1; omega) (by have := hL.1.1; omega) z) hpr
  -- the end
  have fin : ∀ (T : ty_S) (I' : Nat → Int) (A' : Nat → Int → Int) (k : Int) (th' : Nat), ty_st T → I' 11 = k → 0 ≤ k ∧ k ≤ 4 → th' ≤ th + 1 → lw_R (rm_s T I' A') K th' → T.2.2.2.2.2.2.1 95 = 1 → ty_W L xs (d + 50) 150 238 [some (.inr (.inr (some (0, 0)))), some (.inr (.inr (some (93, 0)))), some (.inr (.inr (some (94, 0)))), some (.inr (.inr (some (95, 0)))), some (.inl (ty_J i)), some (.inl (ty_J k)), x6.map .inl] [] (rm_s T I' A') Q := by
    intro T I' A' k th' hS hk hkr hth hR h1
    refine ty_aload_n (pc := 238) (i := 2) (ks := []) (by decide +kernel) rfl ?_
    -- at 239: .invokevirtual 55
    refine ty_callv (pc := 239) (idx := 55) (m := 103) (n := 1) (c := 13) (vs := []) (r := []) (by decide +kernel) rfl rfl (Nat.le_of_ble_eq_true rfl) (by first | rfl | assumption) (by first | exact hS.1 _ _ rfl | assumption) ((rm_thrown (L := L) (xs := xs) (I := I') (A := A') 0 hS).deeper (by omega)) ?_
    rintro _ S3 ⟨t, rfl, ht, rfl⟩
    refine ty_KI ?_
    rw [hk] at ht
    subst ht
    refine ty_iload (pc := 242) (i := 5) (ks := []) (by decide +kernel) rfl ?_
    -- at 244: .if_icmp .eq 5
    refine ty_icmp_eq (pc := 244) (off := 5) (t := 249) (ks := []) (by decide +kernel) (by omega) (by omega) (fun hc => ?_) (fun hc => ?_)
    rotate_left
    · exact absurd rfl hc
    clear hc
    refine ty_goto (pc := 249) (off := 240) (t := 489) (ks := []) (by decide +kernel) ?_
    -- at 489: .iinc 4 3
    exact cont _ th' (some (ty_J t)) x6 hth hR h1
  rcases hcase with ⟨c1, rfl, rfl⟩ | ⟨c1, c1', rfl, c2⟩
  · obtain ⟨rfl, rfl⟩ : k = 1 ∧ S' = ty_ex (ty_th S) := hk
    have hD' := dk_R_ex (dk_R_th hD)
    have hS := hD'.1
    refine ty_istore (pc := 226) (i := 5) (ks := []) (ls' := [_, _, _, _, _, _, _]) (by decide +kernel) rfl ?_
    refine ty_aload_n (pc := 228) (i := 2) (ks := []) (by decide +kernel) rfl ?_
    refine ty_aload_n (pc := 229) (i := 0) (ks := []) (by decide +kernel) rfl ?_
    refine ty_iload (pc := 230) (i := 4) (ks := []) (by decide +kernel) rfl ?_
    refine ty_iconst (pc := 232) (n := 1) (ks := []) (by decide +kernel) ?_
    refine ty_iadd (pc := 233) (ks := []) (by decide +kernel) ?_
    refine ty_sload (pc := 234) (ks := []) (by decide +kernel) (by first | exact hS.1 _ _ rfl | assumption) (by omega) ?_
    -- at 235: .invokevirtual 65
    rw [hp]
    refine ty_callv (pc := 235) (idx := 65) (m := 114) (n := 2) (c := 13) (vs := [_]) (r := []) (by decide +kernel) rfl rfl (Nat.le_of_ble_eq_true rfl) (by first | rfl | assumption) (by first | exact hS.1 _ _ rfl | assumption) (lw_mv (S := S) (by have h := lw_W_I w1; exact h) (by have h := lw_W_M w1; exact h) ((hAd _ hS).deeper (by omega))) ?_
    rintro _ S2 ⟨rfl, I', A', rfl, hm⟩
    refine ty_KV ?_
    rcases hm with ⟨-, h2, h3⟩ | ⟨h1, h1', -⟩
    · exact fin _ I' A' 1 (th + 1) hS h2 (by decide) (Nat.le_refl _) (lw_up hD' (rm_R_rows hD.2.1 hD'.2.1 (dk_MI hD) h3)) (by have h := (w1.2.2 _ (by decide)).trans h93; exact h)
    · omega
  · obtain ⟨rfl, rfl⟩ : k = 0 ∧ S' = S1 := hk
    have hS := c2.1
    refine ty_istore (pc := 226) (i := 5) (ks := []) (ls' := [_, _, _, _, _, _, _]) (by decide +kernel) rfl ?_
    refine ty_aload_n (pc := 228) (i := 2) (ks := []) (by decide +kernel) rfl ?_
    refine ty_aload_n (pc := 229) (i := 0) (ks := []) (by decide +kernel) rfl ?_
    refine ty_iload (pc := 230) (i := 4) (ks := []) (by decide +kernel) rfl ?_
    refine ty_iconst (pc := 232) (n := 1) (ks := []) (by decide +kernel) ?_
    refine ty_iadd (pc := 233) (ks := []) (by decide +kernel) ?_
    refine ty_sload (pc := 234) (ks := []) (by decide +kernel) (by first | exact hS.1 _ _ rfl | assumption) (by omega) ?_
    -- at 235: .invokevirtual 65
    rw [hp]
    refine ty_callv (pc := 235) (idx := 65) (m := 114) (n := 2) (c := 13) (vs := [_]) (r := []) (by decide +kernel) rfl rfl (Nat.le_of_ble_eq_true rfl) (by first | rfl | assumption) (by first | exact hS.1 _ _ rfl | assumption) (lw_mv (S := S) (by have h := lw_W_I w1; exact h) (by have h := lw_W_M w1; exact h) ((hAd _ hS).deeper (by omega))) ?_
    rintro _ S2 ⟨rfl, I', A', rfl, hm⟩
    refine ty_KV ?_
    rcases hm with ⟨h1, -⟩ | ⟨-, -, h2, h3⟩
    · omega
    · exact fin _ I' A' 0 th hS h2 (by decide) (by omega) (lw_up c2 (rm_R_none h3)) ((w1.2.2 _ (by decide)).trans h93)
theorem lw_o_ask (d : Nat) {K : Nat × Nat} {th : Nat} (hR : lw_R S K th) (h93 : S.2.2.2.2.2.2.1 95 = 1) {i : Int} (hi : 0 ≤ i ∧ i + 2 < L ∧ (L : Int) ≤ 2147480000) {x5 x6 : Option Int32} {Q : ai_O → ty_S → Prop} (cont : ∀ (S' : ty_S) (th' : Nat) (x5 x6 : Option Int32), th' ≤ th + 1 → lw_R S' K th' → S'.2.2.2.2.2.2.1 95 = 1 → ty_W L xs (d + 50) 150 489 [some (.inr (.inr (some (0, 0)))), some (.inr (.inr (some (93, 0)))), some (.inr (.inr (some (94, 0)))), some (.inr (.inr (some (95, 0)))), some (.inl (ty_J i)), x5.map .inl, x6.map .inl] [] S' Q) :
    ty_W L xs (d + 50) 150 252 [some (.inr (.inr (some (0, 0)))), some (.inr (.inr (some (93, 0)))), some (.inr (.inr (some (94, 0)))), some (.inr (.inr (some (95, 0)))), some (.inl (ty_J i)), x5.map .inl, x6.map .inl] [] S Q := by
  obtain ⟨tau, s, tx, pl, m, as, hD, hM⟩ := hR
  have hS := hD.1
  have hL := hD.2.2.1
  refine ty_aload_n (pc := 252) (i := 1) (ks := []) (by decide +kernel) rfl ?_
  refine ty_aload_n (pc := 253) (i := 3) (ks := []) (by decide +kernel) rfl ?_
  -- at 254: .invokestatic 66
  have hC := lw_ask (L := L) (xs := xs) (S := S) 40 hS ((dk_ask (L := L) (xs := xs) 0 hD).deeper (by omega)) (fun o S1 hq => by
      rcases hq with ⟨-, ho, ⟨th', -, c⟩, w1⟩ | ⟨-, P0, -, -, ho, ⟨th', -, c⟩, w1, -⟩
      · exact ⟨c.1, (w1.2.2 _ (by decide)).trans h93, .inl ho⟩
      · refine ⟨c.1, (w1.2.2 _ (by decide)).trans h93, .inr ?_⟩
        rw [ho]
        exact dk_sk_o)
  refine ty_calls (pc := 254) (idx := 66) (m := 35) (n := 2) (c := 0) (av := [_, _]) (r := []) (by decide +kernel) rfl rfl (Nat.le_of_ble_eq_true rfl) (hC.deeper (by omega)) ?_
  rintro _ S' ⟨k, rfl, o, S1, hcase, hk⟩
  refine ty_KI ?_
  rcases hcase with ⟨c1, rfl, ⟨th', hth, c2⟩, w1⟩ | ⟨c1, P0, ⟨S2, rfl, hU2⟩, hMI2, rfl, ⟨th', hth, c2⟩, w1, hP1⟩
  · obtain ⟨rfl, rfl⟩ : k = 1 ∧ S' = ty_ex S1 := hk
    have hD' := dk_R_ex c2
    have hS := hD'.1
    refine ty_istore (pc := 257) (i := 5) (ks := []) (ls' := [_, _, _, _, _, _, _]) (by decide +kernel) rfl ?_
    refine ty_aload_n (pc := 259) (i := 2) (ks := []) (by decide +kernel) rfl ?_
    -- at 260: .invokevirtual 68
    refine ty_callv (pc := 260) (idx := 68) (m := 115) (n := 1) (c := 13) (vs := []) (r := []) (by decide +kernel) rfl rfl (Nat.le_of_ble_eq_true rfl) (by first | rfl | assumption) (by first | exact hS.1 _ _ rfl | assumption) (lw_mv (S := S) (by have h := lw_W_I w1; exact h) (by have h := lw_W_M w1; exact h) ((rm_ask (L := L) (xs := xs) (S := ty_ex S1) (S0 := S) (S2 := S) 0 hS hM hL.1 (fun h => absurd (h.symm.trans c1) (by decide)) (fun h => absurd (h.symm.trans c1) (by decide))).deeper (by omega))) ?_
    rintro _ S2 ⟨z, rfl, I', A', rfl, hm⟩
    refine ty_KI ?_
    rcases hm with ⟨-, h2, h3⟩ | ⟨h1, -⟩
    · exact lw_t_ask _ hS h2 (by decide) (fun h => absurd h (by decide)) (cont _ th' (some (ty_J 1)) (some (ty_J z)) hth (lw_up hD' (rm_R_none h3)) (by have h := (w1.2.2 _ (by decide)).trans h93; exact h))
    · exact absurd (h1.symm.trans c1) (by decide)
  · have hAsk := fun (T : ty_S) (hT : ty_st T) => rm_ask (L := L) (xs := xs) (S := T) (S0 := S) (S2 := S2) 0 hT hM hL.1 (fun _ => hU2) (fun _ => hMI2)
    generalize mo_seek (dk_P S2 (dk_tp tau 12 tx) s m) 1000000 true (mo_start (dk_nv tx) (dk_gs (dk_tp tau 12 tx) 12)) = R at hk c2 hAsk
    by_cases e : R.1 = 1
    · have es : dk_sk R = (.inr R.2.1, some R.2) := if_pos e
      rw [es] at hk c2
      obtain ⟨rfl, rfl⟩ : k = 0 ∧ S' = ty_sZ S1 0 (ty_J R.2.1).toInt64 := hk
      have hD' := dk_R_Z (i := 0) (v := (ty_J R.2.1).toInt64) c2
      have hS := hD'.1
      refine ty_istore (pc := 257) (i := 5) (ks := []) (ls' := [_, _, _, _, _, _, _]) (by decide +kernel) rfl ?_
      refine ty_aload_n (pc := 259) (i := 2) (ks := []) (by decide +kernel) rfl ?_
      -- at 260: .invokevirtual 68
      refine ty_callv (pc := 260) (idx := 68) (m := 115) (n := 1) (c := 13) (vs := []) (r := []) (by decide +kernel) rfl rfl (Nat.le_of_ble_eq_true rfl) (by first | rfl | assumption) (by first | exact hS.1 _ _ rfl | assumption) (lw_mv (S := S) (by have h := lw_W_I w1; exact h) (by have h := lw_W_M w1; exact h) ((hAsk _ hS).deeper (by omega))) ?_
      rintro _ S3 ⟨z, rfl, I', A', rfl, ⟨h1, -⟩ | ⟨-, h3, h4⟩⟩
      · exact absurd (h1.symm.trans c1) (by decide)
      refine ty_KI ?_
      rw [es] at h3
      obtain ⟨-, hz, h2⟩ : R.1 = 1 ∧ z = R.2.1 ∧ I' 11 = 0 := by
        rcases h4 with h | h | h | h
        · exact h
        · omega
        · omega
        · omega
      refine lw_t_ask _ hS h2 (by decide) (fun _ => ?_) (cont _ th' (some (ty_J 0)) (some (ty_J z)) hth (lw_up hD' (rm_R_G h3 hP1)) ((w1.2.2 _ (by decide)).trans h93))
      rw [hz]
      exact ty_sZ_0
    · have es : dk_sk R = (.inl (if R.1 = 0 then 2 else if R.1 = 2 then 1 else 3), none) := if_neg e
      rw [es] at hk c2
      obtain ⟨rfl, rfl⟩ : k = rl_a (if R.1 = 0 then 2 else if R.1 = 2 then 1 else 3) ∧ S' = ty_ex S1 := hk
      have hD' := dk_R_ex c2
      have hS := hD'.1
      refine ty_istore (pc := 257) (i := 5) (ks := []) (ls' := [_, _, _, _, _, _, _]) (by decide +kernel) rfl ?_
      refine ty_aload_n (pc := 259) (i := 2) (ks := []) (by decide +kernel) rfl ?_
      -- at 260: .invokevirtual 68
      refine ty_callv (pc := 260) (idx := 68) (m := 115) (n := 1) (c := 13) (vs := []) (r := []) (by decide +kernel) rfl rfl (Nat.le_of_ble_eq_true rfl) (by first | rfl | assumption) (by first | exact hS.1 _ _ rfl | assumption) (lw_mv (S := S) (by have h := lw_W_I w1; exact h) (by have h := lw_W_M w1; exact h) ((hAsk _ hS).deeper (by omega))) ?_
      rintro _ S3 ⟨z, rfl, I', A', rfl, ⟨h1, -⟩ | ⟨-, h3, h4⟩⟩
      · exact absurd (h1.symm.trans c1) (by decide)
      refine ty_KI ?_
      rw [es] at h3
      have h2 : I' 11 = rl_a (if R.1 = 0 then 2 else if R.1 = 2 then 1 else 3) := by
        rcases h4 with ⟨h, -⟩ | ⟨h, h'⟩ | ⟨h, h'⟩ | ⟨h, h'⟩
        · exact absurd h e
        · rw [h', h]; rfl
        · rw [h', h]; rfl
        · rw [h', h]; rfl
      have hkr : 1 ≤ rl_a (if R.1 = 0 then 2 else if R.1 = 2 then 1 else 3) ∧ rl_a (if R.1 = 0 then 2 else if R.1 = 2 then 1 else 3) ≤ 4 := rl_a_r
      exact lw_t_ask _ hS h2 (by omega) (fun h => by omega) (cont _ th' (some (ty_J (rl_a (if R.1 = 0 then 2 else if R.1 = 2 then 1 else 3)))) (some (ty_J z)) hth (lw_up hD' (rm_R_none h3)) (by have h := (w1.2.2 _ (by decide)).trans h93; exact h))
theorem lw_o_next (d : Nat) {K : Nat × Nat} {th : Nat} (hR : lw_R S K th) (h93 : S.2.2.2.2.2.2.1 95 = 1) {i : Int} (hi : 0 ≤ i ∧ i + 2 < L ∧ (L : Int) ≤ 2147480000) {x5 x6 : Option Int32} {Q : ai_O → ty_S → Prop} (cont : ∀ (S' : ty_S) (th' : Nat) (x5 x6 : Option Int32), th' ≤ th + 1 → lw_R S' K th' → S'.2.2.2.2.2.2.1 95 = 1 → ty_W L xs (d + 50) 150 489 [some (.inr (.inr (some (0, 0)))), some (.inr (.inr (some (93, 0)))), some (.inr (.inr (some (94, 0)))), some (.inr (.inr (some (95, 0)))), some (.inl (ty_J i)), x5.map .inl, x6.map .inl] [] S' Q) :
    ty_W L xs (d + 50) 150 296 [some (.inr (.inr (some (0, 0)))), some (.inr (.inr (some (93, 0)))), some (.inr (.inr (some (94, 0)))), some (.inr (.inr (some (95, 0)))), some (.inl (ty_J i)), x5.map .inl, x6.map .inl] [] S Q := by
  obtain ⟨tau, s, tx, pl, m, as, hD, hM⟩ := hR
  have hS := hD.1
  have hL := hD.2.2.1
  refine ty_aload_n (pc := 296) (i := 1) (ks := []) (by decide +kernel) rfl ?_
  refine ty_aload_n (pc := 297) (i := 3) (ks := []) (by decide +kernel) rfl ?_
  -- at 298: .invokestatic 69
  have hC := lw_next (L := L) (xs := xs) (S := S) 40 hS ((dk_next (L := L) (xs := xs) 0 hD).deeper (by omega)) (fun o S1 hq => by
      obtain ⟨ho, ⟨th', -, c⟩, w1, -⟩ := hq
      refine ⟨c.1, (w1.2.2 _ (by decide)).trans h93, ?_⟩
      rw [ho]
      cases as with
      | none => exact .inl rfl
      | some M => exact dk_sk_o)
  refine ty_calls (pc := 298) (idx := 69) (m := 92) (n := 2) (c := 0) (av := [_, _]) (r := []) (by decide +kernel) rfl rfl (Nat.le_of_ble_eq_true rfl) (hC.deeper (by omega)) ?_
  rintro _ S' ⟨k, rfl, o, S1, ⟨rfl, ⟨th', hth, c2⟩, w1, hP1⟩, hk⟩
  refine ty_KI ?_
  have hMo := fun (T : ty_S) (hT : ty_st T) => rm_next (L := L) (xs := xs) (S := T) (S0 := S) 0 hT hM hL.1 hD.2.1 (dk_MI hD)
  cases as with
  | none =>
    obtain ⟨rfl, rfl⟩ : k = 1 ∧ S' = ty_ex S1 := hk
    have hD' : dk_R (ty_ex S1) K th' (dk_tq tau) s tx pl m none := dk_R_ex c2
    have hS := hD'.1
    refine ty_istore (pc := 301) (i := 5) (ks := []) (ls' := [_, _, _, _, _, _, _]) (by decide +kernel) rfl ?_
    refine ty_aload_n (pc := 303) (i := 2) (ks := []) (by decide +kernel) rfl ?_
    -- at 304: .invokevirtual 71
    refine ty_callv (pc := 304) (idx := 71) (m := 144) (n := 1) (c := 13) (vs := []) (r := []) (by decide +kernel) rfl rfl (Nat.le_of_ble_eq_true rfl) (by first | rfl | assumption) (by first | exact hS.1 _ _ rfl | assumption) (lw_mv (S := S) (by have h := lw_W_I w1; exact h) (by have h := lw_W_M w1; exact h) ((hMo _ hS).deeper (by omega))) ?_
    rintro _ S3 ⟨z, rfl, I', A', rfl, ⟨-, h2, h3⟩ | ⟨M, hM', -⟩⟩
    · refine ty_KI ?_
      exact lw_t_next _ hS h2 (by decide) (fun h => absurd h (by decide)) (cont _ th' (some (ty_J 1)) (some (ty_J z)) hth (lw_up hD' (rm_R_none (rm_R_tq hL.1 h3))) (by have h := (w1.2.2 _ (by decide)).trans h93; exact h))
    · cases hM'
  | some M =>
    have hk : lw_k rl_n (dk_o (dk_sk (mo_seek (dk_P S tau s m) 1000000 false M)).1) S1 k S' := hk
    have c2 : dk_R S1 K th' (if (dk_sk (mo_seek (dk_P S tau s m) 1000000 false M)).2.isSome = true then tau else dk_tq tau) s tx pl m (dk_sk (mo_seek (dk_P S tau s m) 1000000 false M)).2 := c2
    have hMo : ∀ T : ty_S, ty_st T → ty_C L xs 11 144 [.inr (.inr (some (94, 0)))] (rm_s T (lw_I S) (lw_M S)) (ty_oI fun z S' => ∃ I' A', S' = rm_s T I' A' ∧ rk_p S I' A' tau s tx pl m (mo_seek (dk_P S tau s m) 1000000 false M) z 1) := fun T hT => (hMo T hT).mono (fun o S' h => by
      obtain ⟨z, h1, I', A', h2, ⟨h3, -⟩ | ⟨M', h3, h4⟩⟩ := h
      · cases h3
      · cases h3
        exact ⟨z, h1, I', A', h2, h4⟩)
    generalize mo_seek (dk_P S tau s m) 1000000 false M = R at hk c2 hMo
    by_cases e : R.1 = 1
    · have es : dk_sk R = (.inr R.2.1, some R.2) := if_pos e
      rw [es] at hk c2
      obtain ⟨rfl, rfl⟩ : k = 0 ∧ S' = ty_sZ S1 0 (ty_J R.2.1).toInt64 := hk
      have hD' := dk_R_Z (i := 0) (v := (ty_J R.2.1).toInt64) c2
      have hS := hD'.1
      refine ty_istore (pc := 301) (i := 5) (ks := []) (ls' := [_, _, _, _, _, _, _]) (by decide +kernel) rfl ?_
      refine ty_aload_n (pc := 303) (i := 2) (ks := []) (by decide +kernel) rfl ?_
      -- at 304: .invokevirtual 71
      refine ty_callv (pc := 304) (idx := 71) (m := 144) (n := 1) (c := 13) (vs := []) (r := []) (by decide +kernel) rfl rfl (Nat.le_of_ble_eq_true rfl) (by first | rfl | assumption) (by first | exact hS.1 _ _ rfl | assumption) (lw_mv (S := S) (by have h := lw_W_I w1; exact h) (by have h := lw_W_M w1; exact h) ((hMo _ hS).deeper (by omega))) ?_
      rintro _ S3 ⟨z, rfl, I', A', rfl, h3, h4⟩
      refine ty_KI ?_
      rw [es] at h3
      obtain ⟨-, hz, h2⟩ : R.1 = 1 ∧ z = R.2.1 ∧ I' 11 = 0 := by
        rcases h4 with h | h | h | h
        · exact h
        · omega
        · omega
        · omega
      refine lw_t_next _ hS h2 (by decide) (fun _ => ?_) (cont _ th' (some (ty_J 0)) (some (ty_J z)) hth (lw_up hD' (rm_R_G h3 hP1)) ((w1.2.2 _ (by decide)).trans h93))
      rw [hz]
      exact ty_sZ_0
    · have es : dk_sk R = (.inl (if R.1 = 0 then 2 else if R.1 = 2 then 1 else 3), none) := if_neg e
      rw [es] at hk c2
      obtain ⟨rfl, rfl⟩ : k = rl_n (if R.1 = 0 then 2 else if R.1 = 2 then 1 else 3) ∧ S' = ty_ex S1 := hk
      have hD' := dk_R_ex c2
      have hS := hD'.1
      refine ty_istore (pc := 301) (i := 5) (ks := []) (ls' := [_, _, _, _, _, _, _]) (by decide +kernel) rfl ?_
      refine ty_aload_n (pc := 303) (i := 2) (ks := []) (by decide +kernel) rfl ?_
      -- at 304: .invokevirtual 71
      refine ty_callv (pc := 304) (idx := 71) (m := 144) (n := 1) (c := 13) (vs := []) (r := []) (by decide +kernel) rfl rfl (Nat.le_of_ble_eq_true rfl) (by first | rfl | assumption) (by first | exact hS.1 _ _ rfl | assumption) (lw_mv (S := S) (by have h := lw_W_I w1; exact h) (by have h := lw_W_M w1; exact h) ((hMo _ hS).deeper (by omega))) ?_
      rintro _ S3 ⟨z, rfl, I', A', rfl, h3, h4⟩
      refine ty_KI ?_
      rw [es] at h3
      have h2 : I' 11 = rl_n (if R.1 = 0 then 2 else if R.1 = 2 then 1 else 3) := by
        rcases h4 with ⟨h, -⟩ | ⟨h, h'⟩ | ⟨h, h'⟩ | ⟨h, h'⟩
        · exact absurd h e
        · rw [h', h]; rfl
        · rw [h', h]; rfl
        · rw [h', h]; rfl
      have hkr : 1 ≤ rl_n (if R.1 = 0 then 2 else if R.1 = 2 then 1 else 3) ∧ rl_n (if R.1 = 0 then 2 else if R.1 = 2 then 1 else 3) ≤ 4 := rl_n_r
      exact lw_t_next _ hS h2 (by omega) (fun h => by omega) (cont _ th' (some (ty_J (rl_n (if R.1 = 0 then 2 else if R.1 = 2 then 1 else 3)))) (some (ty_J z)) hth (lw_up hD' (rm_R_none h3)) (by have h := (w1.2.2 _ (by decide)).trans h93; exact h))
theorem lw_o_letter (d : Nat) {K : Nat × Nat} {th : Nat} (hR : lw_R S K th) (h93 : S.2.2.2.2.2.2.1 95 = 1) {i : Int} (hi : 0 ≤ i ∧ i + 2 < L ∧ (L : Int) ≤ 2147480000) {x5 x6 : Option Int32} {Q : ai_O → ty_S → Prop} (cont : ∀ (S' : ty_S) (th' : Nat) (x5 x6 : Option Int32), th' ≤ th + 1 → lw_R S' K th' → S'.2.2.2.2.2.2.1 95 = 1 → ty_W L xs (d + 50) 150 489 [some (.inr (.inr (some (0, 0)))), some (.inr (.inr (some (93, 0)))), some (.inr (.inr (some (94, 0)))), some (.inr (.inr (some (95, 0)))), some (.inl (ty_J i)), x5.map .inl, x6.map .inl] [] S' Q) :
    ty_W L xs (d + 50) 150 340 [some (.inr (.inr (some (0, 0)))), some (.inr (.inr (some (93, 0)))), some (.inr (.inr (some (94, 0)))), some (.inr (.inr (some (95, 0)))), some (.inl (ty_J i)), x5.map .inl, x6.map .inl] [] S Q := by
  obtain ⟨tau, s, tx, pl, m, as, hD, hM⟩ := hR
  have hS := hD.1
  obtain ⟨p, hp, hpr⟩ : ∃ p : Int, xs (i + 1).toNat = ty_J p ∧ -2147483648 ≤ p ∧ p ≤ 2147483647 := ⟨(xs (i + 1).toNat).toInt, (ty_J_of _).symm, ty_toInt_r _⟩
  obtain ⟨q, hq2, hqr⟩ : ∃ q : Int, xs (i + 2).toNat = ty_J q ∧ -2147483648 ≤ q ∧ q ≤ 2147483647 := ⟨(xs (i + 2).toNat).toInt, (ty_J_of _).symm, ty_toInt_r _⟩
  have hLt := dk_letter (L := L) (xs := xs) 0 hD (lw_md hM) hpr hqr
  have hMo := fun (T : ty_S) (hT : ty_st T) => rm_letter (L := L) (xs := xs) (S := T) (S0 := S) 0 hT hM hD.2.1 (dk_MI hD) hpr hqr
  have hE := fun e => dk_ltr_e (G := dk_G S tau) (tau := tau) (as := as) (v := p) (i := q) (e := e)
  generalize dk_ltr (dk_G S tau) tau as p q = w at hLt hMo hE
  refine ty_aload_n (pc := 340) (i := 1) (ks := []) (by decide +kernel) rfl ?_
  refine ty_aload_n (pc := 341) (i := 0) (ks := []) (by decide +kernel) rfl ?_
  refine ty_iload (pc := 342) (i := 4) (ks := []) (by decide +kernel) rfl ?_
  refine ty_iconst (pc := 344) (n := 1) (ks := []) (by decide +kernel) ?_
  refine ty_iadd (pc := 345) (ks := []) (by decide +kernel) ?_
  refine ty_sload (pc := 346) (ks := []) (by decide +kernel) (by first | exact hS.1 _ _ rfl | assumption) (by omega) ?_
  refine ty_aload_n (pc := 347) (i := 0) (ks := []) (by decide +kernel) rfl ?_
  refine ty_iload (pc := 348) (i := 4) (ks := []) (by decide +kernel) rfl ?_
  refine ty_iconst (pc := 350) (n := 2) (ks := []) (by decide +kernel) ?_
  refine ty_iadd (pc := 351) (ks := []) (by decide +kernel) ?_
  refine ty_sload (pc := 352) (ks := []) (by decide +kernel) (by first | exact hS.1 _ _ rfl | assumption) (by omega) ?_
  refine ty_aload_n (pc := 353) (i := 3) (ks := []) (by decide +kernel) rfl ?_
  -- at 354: .invokestatic 72
  rw [hp, hq2]
  have hC := lw_letter (L := L) (xs := xs) (S := S) 47 hS (hLt.deeper (by omega)) (fun o S1 hq => by
      obtain ⟨ho, T, hT, hS1⟩ := hq
      have hDT : dk_R T K th tau s tx pl m as := by
        rcases hT with rfl | ⟨k, f, rfl⟩
        · exact hD
        · exact dk_R_cw hD
      have h93T : T.2.2.2.2.2.2.1 95 = 1 := by
        rcases hT with rfl | ⟨k, f, rfl⟩
        · exact h93
        · exact h93
      refine ⟨?_, ?_, ?_⟩
      · rcases hS1 with rfl | ⟨rfl, -⟩
        · exact hDT.1
        · exact hDT.1
      · rcases hS1 with rfl | ⟨rfl, -⟩
        · exact h93T
        · exact h93T
      · cases w with
        | inl e =>
          rcases hE e rfl with rfl | rfl
          · exact .inl ho
          · exact .inr (.inl ho)
        | inr y => exact .inr (.inr ⟨y, ho⟩))
  refine ty_calls (pc := 354) (idx := 72) (m := 94) (n := 4) (c := 0) (av := [_, _, _, _]) (r := []) (by decide +kernel) rfl rfl (Nat.le_of_ble_eq_true rfl) (hC.deeper (by omega)) ?_
  rintro _ S' ⟨k, rfl, o, S1, ⟨rfl, T, hT, hS1⟩, hk⟩
  refine ty_KI ?_
  have hDT : dk_R T K th tau s tx pl m as ∧ dk_W S T := by
    rcases hT with rfl | ⟨k, f, rfl⟩
    · exact ⟨hD, .refl⟩
    · exact ⟨dk_R_cw hD, cw_s_W⟩
  obtain ⟨th', hth, hD1, w1⟩ : ∃ th', th' ≤ th + 1 ∧ dk_R S1 K th' tau s tx pl m as ∧ dk_W S S1 := by
    rcases hS1 with rfl | ⟨rfl, -⟩
    · exact ⟨th, by omega, hDT.1, hDT.2⟩
    · exact ⟨th + 1, by omega, dk_R_th hDT.1, hDT.2.trans dk_W_th⟩
  clear hDT hS1 hT
  cases w with
  | inl e =>
    obtain ⟨rfl, rfl⟩ : k = rl_c e ∧ S' = ty_ex S1 := hk
    have hD' := dk_R_ex hD1
    have hS := hD'.1
    have hcr : 1 ≤ rl_c e ∧ rl_c e ≤ 2 := by unfold rl_c; split <;> omega
    refine ty_istore (pc := 357) (i := 5) (ks := []) (ls' := [_, _, _, _, _, _, _]) (by decide +kernel) rfl ?_
    refine ty_aload_n (pc := 359) (i := 2) (ks := []) (by decide +kernel) rfl ?_
    refine ty_aload_n (pc := 360) (i := 0) (ks := []) (by decide +kernel) rfl ?_
    refine ty_iload (pc := 361) (i := 4) (ks := []) (by decide +kernel) rfl ?_
    refine ty_iconst (pc := 363) (n := 1) (ks := []) (by decide +kernel) ?_
    refine ty_iadd (pc := 364) (ks := []) (by decide +kernel) ?_
    refine ty_sload (pc := 365) (ks := []) (by decide +kernel) (by first | exact hS.1 _ _ rfl | assumption) (by omega) ?_
    refine ty_aload_n (pc := 366) (i := 0) (ks := []) (by decide +kernel) rfl ?_
    refine ty_iload (pc := 367) (i := 4) (ks := []) (by decide +kernel) rfl ?_
    refine ty_iconst (pc := 369) (n := 2) (ks := []) (by decide +kernel) ?_
    refine ty_iadd (pc := 370) (ks := []) (by decide +kernel) ?_
    refine ty_sload (pc := 371) (ks := []) (by decide +kernel) (by first | exact hS.1 _ _ rfl | assumption) (by omega) ?_
    -- at 372: .invokevirtual 75
    rw [hp, hq2]
    refine ty_callv (pc := 372) (idx := 75) (m := 145) (n := 3) (c := 13) (vs := [_, _]) (r := []) (by decide +kernel) rfl rfl (Nat.le_of_ble_eq_true rfl) (by first | rfl | assumption) (by first | exact hS.1 _ _ rfl | assumption) (lw_mv (S := S) (by have h := lw_W_I w1; exact h) (by have h := lw_W_M w1; exact h) ((hMo _ hS).deeper (by omega))) ?_
    rintro _ S2 ⟨z, rfl, I', A', rfl, h3, h2⟩
    refine ty_KI ?_
    exact lw_t_letter _ hS (show I' 11 = rl_c e from h2) (by omega) (fun h => by omega) (cont _ th' (some (ty_J (rl_c e))) (some (ty_J z)) hth (lw_up hD' (rm_R_rows hD.2.1 hD'.2.1 (dk_MI hD) h3)) (by have h := (w1.2.2 _ (by decide)).trans h93; exact h))
  | inr y =>
    obtain ⟨rfl, rfl⟩ : k = 0 ∧ S' = ty_sZ S1 0 (ty_J y).toInt64 := hk
    have hD' := dk_R_Z (i := 0) (v := (ty_J y).toInt64) hD1
    have hS := hD'.1
    refine ty_istore (pc := 357) (i := 5) (ks := []) (ls' := [_, _, _, _, _, _, _]) (by decide +kernel) rfl ?_
    refine ty_aload_n (pc := 359) (i := 2) (ks := []) (by decide +kernel) rfl ?_
    refine ty_aload_n (pc := 360) (i := 0) (ks := []) (by decide +kernel) rfl ?_
    refine ty_iload (pc := 361) (i := 4) (ks := []) (by decide +kernel) rfl ?_
    refine ty_iconst (pc := 363) (n := 1) (ks := []) (by decide +kernel) ?_
    refine ty_iadd (pc := 364) (ks := []) (by decide +kernel) ?_
    refine ty_sload (pc := 365) (ks := []) (by decide +kernel) (by first | exact hS.1 _ _ rfl | assumption) (by omega) ?_
    refine ty_aload_n (pc := 366) (i := 0) (ks := []) (by decide +kernel) rfl ?_
    refine ty_iload (pc := 367) (i := 4) (ks := []) (by decide +kernel) rfl ?_
    refine ty_iconst (pc := 369) (n := 2) (ks := []) (by decide +kernel) ?_
    refine ty_iadd (pc := 370) (ks := []) (by decide +kernel) ?_
    refine ty_sload (pc := 371) (ks := []) (by decide +kernel) (by first | exact hS.1 _ _ rfl | assumption) (by omega) ?_
    -- at 372: .invokevirtual 75
    rw [hp, hq2]
    refine ty_callv (pc := 372) (idx := 75) (m := 145) (n := 3) (c := 13) (vs := [_, _]) (r := []) (by decide +kernel) rfl rfl (Nat.le_of_ble_eq_true rfl) (by first | rfl | assumption) (by first | exact hS.1 _ _ rfl | assumption) (lw_mv (S := S) (by have h := lw_W_I w1; exact h) (by have h := lw_W_M w1; exact h) ((hMo _ hS).deeper (by omega))) ?_
    rintro _ S2 ⟨z, rfl, I', A', rfl, h3, h2, hz⟩
    refine ty_KI ?_
    refine lw_t_letter _ hS h2 (by decide) (fun _ => ?_) (cont _ th' (some (ty_J 0)) (some (ty_J z)) hth (lw_up hD' (rm_R_rows hD.2.1 hD'.2.1 (dk_MI hD) h3)) ((w1.2.2 _ (by decide)).trans h93))
    rw [hz]
    exact ty_sZ_0
theorem lw_o_sleeping (d : Nat) {K : Nat × Nat} {th : Nat} (hR : lw_R S K th) (h93 : S.2.2.2.2.2.2.1 95 = 1) {i : Int} (hi : 0 ≤ i ∧ i + 2 < L ∧ (L : Int) ≤ 2147480000) {x5 x6 : Option Int32} {Q : ai_O → ty_S → Prop} (cont : ∀ (S' : ty_S) (th' : Nat) (x5 x6 : Option Int32), th' ≤ th + 1 → lw_R S' K th' → S'.2.2.2.2.2.2.1 95 = 1 → ty_W L xs (d + 50) 150 489 [some (.inr (.inr (some (0, 0)))), some (.inr (.inr (some (93, 0)))), some (.inr (.inr (some (94, 0)))), some (.inr (.inr (some (95, 0)))), some (.inl (ty_J i)), x5.map .inl, x6.map .inl] [] S' Q) :
    ty_W L xs (d + 50) 150 408 [some (.inr (.inr (some (0, 0)))), some (.inr (.inr (some (93, 0)))), some (.inr (.inr (some (94, 0)))), some (.inr (.inr (some (95, 0)))), some (.inl (ty_J i)), x5.map .inl, x6.map .inl] [] S Q := by
  obtain ⟨tau, s, tx, pl, m, as, hD, hM⟩ := hR
  have hS := hD.1
  obtain ⟨p, hp, hpr⟩ : ∃ p : Int, xs (i + 1).toNat = ty_J p ∧ -2147483648 ≤ p ∧ p ≤ 2147483647 := ⟨(xs (i + 1).toNat).toInt, (ty_J_of _).symm, ty_toInt_r _⟩
  have hLt := dk_sleeping (L := L) (xs := xs) 0 hD (lw_md hM) hpr
  have hMo := fun (T : ty_S) (hT : ty_st T) => rm_sleeping (L := L) (xs := xs) (S := T) (S0 := S) 0 hT hM hD.2.1 (dk_MI hD) hpr
  have hE := fun e => dk_slp_e (G := dk_G S tau) (tau := tau) (as := as) (v := p) (e := e)
  generalize dk_slp (dk_G S tau) tau as p = w at hLt hMo hE
  refine ty_aload_n (pc := 408) (i := 1) (ks := []) (by decide +kernel) rfl ?_
  refine ty_aload_n (pc := 409) (i := 0) (ks := []) (by decide +kernel) rfl ?_
  refine ty_iload (pc := 410) (i := 4) (ks := []) (by decide +kernel) rfl ?_
  refine ty_iconst (pc := 412) (n := 1) (ks := []) (by decide +kernel) ?_
  refine ty_iadd (pc := 413) (ks := []) (by decide +kernel) ?_
  refine ty_sload (pc := 414) (ks := []) (by decide +kernel) (by first | exact hS.1 _ _ rfl | assumption) (by omega) ?_
  refine ty_aload_n (pc := 415) (i := 3) (ks := []) (by decide +kernel) rfl ?_
  -- at 416: .invokestatic 76
  rw [hp]
  have hC := lw_sleeping (L := L) (xs := xs) (S := S) 40 hS (hLt.deeper (by omega)) (fun o S1 hq => by
      obtain ⟨ho, hS1⟩ := hq
      refine ⟨?_, ?_, ?_⟩
      · rcases hS1 with rfl | ⟨rfl, -⟩
        · exact hS
        · exact hS
      · rcases hS1 with rfl | ⟨rfl, -⟩
        · exact h93
        · exact h93
      · cases w with
        | inl e =>
          have := hE e rfl
          subst this
          exact .inl ho
        | inr y => exact .inr ⟨y, ho⟩)
  refine ty_calls (pc := 416) (idx := 76) (m := 99) (n := 3) (c := 0) (av := [_, _, _]) (r := []) (by decide +kernel) rfl rfl (Nat.le_of_ble_eq_true rfl) (hC.deeper (by omega)) ?_
  rintro _ S' ⟨k, rfl, o, S1, ⟨rfl, hS1⟩, hk⟩
  refine ty_KI ?_
  obtain ⟨th', hth, hD1, w1⟩ : ∃ th', th' ≤ th + 1 ∧ dk_R S1 K th' tau s tx pl m as ∧ dk_W S S1 := by
    rcases hS1 with rfl | ⟨rfl, -⟩
    · exact ⟨th, by omega, hD, .refl⟩
    · exact ⟨th + 1, by omega, dk_R_th hD, dk_W_th⟩
  clear hS1
  cases w with
  | inl e =>
    obtain ⟨rfl, rfl⟩ : k = rl_c e ∧ S' = ty_ex S1 := hk
    have hD' := dk_R_ex hD1
    have hS := hD'.1
    have hcr : 1 ≤ rl_c e ∧ rl_c e ≤ 2 := by unfold rl_c; split <;> omega
    refine ty_istore (pc := 419) (i := 5) (ks := []) (ls' := [_, _, _, _, _, _, _]) (by decide +kernel) rfl ?_
    refine ty_aload_n (pc := 421) (i := 2) (ks := []) (by decide +kernel) rfl ?_
    refine ty_aload_n (pc := 422) (i := 0) (ks := []) (by decide +kernel) rfl ?_
    refine ty_iload (pc := 423) (i := 4) (ks := []) (by decide +kernel) rfl ?_
    refine ty_iconst (pc := 425) (n := 1) (ks := []) (by decide +kernel) ?_
    refine ty_iadd (pc := 426) (ks := []) (by decide +kernel) ?_
    refine ty_sload (pc := 427) (ks := []) (by decide +kernel) (by first | exact hS.1 _ _ rfl | assumption) (by omega) ?_
    -- at 428: .invokevirtual 79
    rw [hp]
    refine ty_callv (pc := 428) (idx := 79) (m := 148) (n := 2) (c := 13) (vs := [_]) (r := []) (by decide +kernel) rfl rfl (Nat.le_of_ble_eq_true rfl) (by first | rfl | assumption) (by first | exact hS.1 _ _ rfl | assumption) (lw_mv (S := S) (by have h := lw_W_I w1; exact h) (by have h := lw_W_M w1; exact h) ((hMo _ hS).deeper (by omega))) ?_
    rintro _ S2 ⟨z, rfl, I', A', rfl, h3, h2⟩
    refine ty_KI ?_
    exact lw_t_sleeping _ hS (show I' 11 = rl_c e from h2) (by omega) (fun h => by omega) (cont _ th' (some (ty_J (rl_c e))) (some (ty_J z)) hth (lw_up hD' (rm_R_rows hD.2.1 hD'.2.1 (dk_MI hD) h3)) (by have h := (w1.2.2 _ (by decide)).trans h93; exact h))
  | inr y =>
    obtain ⟨rfl, rfl⟩ : k = 0 ∧ S' = ty_sZ S1 0 (ty_J y).toInt64 := hk
    have hD' := dk_R_Z (i := 0) (v := (ty_J y).toInt64) hD1
    have hS := hD'.1
    refine ty_istore (pc := 419) (i := 5) (ks := []) (ls' := [_, _, _, _, _, _, _]) (by decide +kernel) rfl ?_
    refine ty_aload_n (pc := 421) (i := 2) (ks := []) (by decide +kernel) rfl ?_
    refine ty_aload_n (pc := 422) (i := 0) (ks := []) (by decide +kernel) rfl ?_
    refine ty_iload (pc := 423) (i := 4) (ks := []) (by decide +kernel) rfl ?_
    refine ty_iconst (pc := 425) (n := 1) (ks := []) (by decide +kernel) ?_
    refine ty_iadd (pc := 426) (ks := []) (by decide +kernel) ?_
    refine ty_sload (pc := 427) (ks := []) (by decide +kernel) (by first | exact hS.1 _ _ rfl | assumption) (by omega) ?_
    -- at 428: .invokevirtual 79
    rw [hp]
    refine ty_callv (pc := 428) (idx := 79) (m := 148) (n := 2) (c := 13) (vs := [_]) (r := []) (by decide +kernel) rfl rfl (Nat.le_of_ble_eq_true rfl) (by first | rfl | assumption) (by first | exact hS.1 _ _ rfl | assumption) (lw_mv (S := S) (by have h := lw_W_I w1; exact h) (by have h := lw_W_M w1; exact h) ((hMo _ hS).deeper (by omega))) ?_
    rintro _ S2 ⟨z, rfl, I', A', rfl, h3, h2, hz⟩
    refine ty_KI ?_
    refine lw_t_sleeping _ hS h2 (by decide) (fun _ => ?_) (cont _ th' (some (ty_J 0)) (some (ty_J z)) hth (lw_up hD' (rm_R_rows hD.2.1 hD'.2.1 (dk_MI hD) h3)) ((w1.2.2 _ (by decide)).trans h93))
    rw [hz]
    exact ty_sZ_0
theorem lw_o_count (d : Nat) {K : Nat × Nat} {th : Nat} (hR : lw_R S K th) (h93 : S.2.2.2.2.2.2.1 95 = 1) {i : Int} (hi : 0 ≤ i ∧ i + 2 < L ∧ (L : Int) ≤ 2147480000) {x5 x6 : Option Int32} {Q : ai_O → ty_S → Prop} (cont : ∀ (S' : ty_S) (th' : Nat) (x5 x6 : Option Int32), th' ≤ th + 1 → lw_R S' K th' → S'.2.2.2.2.2.2.1 95 = 1 → ty_W L xs (d + 50) 150 489 [some (.inr (.inr (some (0, 0)))), some (.inr (.inr (some (93, 0)))), some (.inr (.inr (some (94, 0)))), some (.inr (.inr (some (95, 0)))), some (.inl (ty_J i)), x5.map .inl, x6.map .inl] [] S' Q) :
    ty_W L xs (d + 50) 150 464 [some (.inr (.inr (some (0, 0)))), some (.inr (.inr (some (93, 0)))), some (.inr (.inr (some (94, 0)))), some (.inr (.inr (some (95, 0)))), some (.inl (ty_J i)), x5.map .inl, x6.map .inl] [] S Q := by
  obtain ⟨tau, s, tx, pl, m, as, hD, hM⟩ := hR
  have hS := hD.1
  obtain ⟨p, hp, hpr⟩ : ∃ p : Int, xs (i + 1).toNat = ty_J p ∧ -2147483648 ≤ p ∧ p ≤ 2147483647 := ⟨(xs (i + 1).toNat).toInt, (ty_J_of _).symm, ty_toInt_r _⟩
  refine ty_aload_n (pc := 464) (i := 1) (ks := []) (by decide +kernel) rfl ?_
  refine ty_aload_n (pc := 465) (i := 0) (ks := []) (by decide +kernel) rfl ?_
  refine ty_iload (pc := 466) (i := 4) (ks := []) (by decide +kernel) rfl ?_
  refine ty_iconst (pc := 468) (n := 1) (ks := []) (by decide +kernel) ?_
  refine ty_iadd (pc := 469) (ks := []) (by decide +kernel) ?_
  refine ty_sload (pc := 470) (ks := []) (by decide +kernel) (by first | exact hS.1 _ _ rfl | assumption) (by omega) ?_
  -- at 471: .invokevirtual 80
  rw [hp]
  refine ty_callv (pc := 471) (idx := 80) (m := 13) (n := 2) (c := 0) (vs := [_]) (r := []) (by decide +kernel) rfl rfl (Nat.le_of_ble_eq_true rfl) (by first | rfl | assumption) (by first | exact hS.1 _ _ rfl | assumption) ((dk_count (L := L) (xs := xs) 0 hD hpr).deeper (by omega)) ?_
  rintro _ S1 ⟨z, rfl, rfl, hS1⟩
  rw [hS1]
  clear hS1
  refine ty_KI ?_
  refine ty_aload_n (pc := 474) (i := 2) (ks := []) (by decide +kernel) rfl ?_
  refine ty_aload_n (pc := 475) (i := 0) (ks := []) (by decide +kernel) rfl ?_
  refine ty_iload (pc := 476) (i := 4) (ks := []) (by decide +kernel) rfl ?_
  refine ty_iconst (pc := 478) (n := 1) (ks := []) (by decide +kernel) ?_
  refine ty_iadd (pc := 479) (ks := []) (by decide +kernel) ?_
  refine ty_sload (pc := 480) (ks := []) (by decide +kernel) (by first | exact hS.1 _ _ rfl | assumption) (by omega) ?_
  -- at 481: .invokevirtual 83
  rw [hp]
  refine ty_callv (pc := 481) (idx := 83) (m := 149) (n := 2) (c := 13) (vs := [_]) (r := [_]) (by decide +kernel) rfl rfl (Nat.le_of_ble_eq_true rfl) (by first | rfl | assumption) (by first | exact hS.1 _ _ rfl | assumption) (lw_mv (S := S) (by rfl) (by rfl) ((rm_count (L := L) (xs := xs) (S := S) (S0 := S) 0 hS hM (dk_MI hD) hD.2.2.2.2.1.2 hpr).deeper (by omega))) ?_
  rintro _ S2 ⟨z, rfl, rfl, I', A', rfl, h3⟩
  refine ty_KI ?_
  refine ty_icmp_same (pc := 484) (off := 5) (t := 489) (ks := []) (by decide +kernel) ?_
  exact cont _ th x5 x6 (by omega) (lw_up hD h3) h93
end LWO
