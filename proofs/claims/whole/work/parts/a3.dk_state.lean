/-! The desk's state: tau the texts in their slots, s the clauses' slots, tx the text typed, pl the place, m how many clauses, as what is asked. -/
def dk_A (S : ty_S) (K : Nat × Nat) (th : Nat) (tau : dk_T) (s : Nat → Nat) (m : Nat) (as : Option mo_M) : Prop := match as with
  | some M => (∃ q, tau 12 = some q) ∧ cs_Y S (dk_P S tau s m) K th M ∧ mo_MI (dk_P S tau s m) M
  | none => tau 12 = none ∧ cs_I S K th
def dk_X (S : ty_S) (tx : List Int) : Prop := S.1 (93, 0) 1 = tx.length ∧ tx.length ≤ 48 ∧ (∀ c ∈ tx, 33 ≤ c ∧ c ≤ 126) ∧ mo_at (S.2.2.1 (10, 0)) 0 tx ∧ ∀ i, 0 ≤ i → i < 48 → 0 ≤ S.2.2.1 (10, 0) i ∧ S.2.2.1 (10, 0) i ≤ 65535
def dk_L (S : ty_S) (tau : dk_T) (s : Nat → Nat) (m : Nat) : Prop := dk_s tau s m ∧ (∀ i, i < 12 → s i < 12) ∧ (∀ i j, i < 12 → j < 12 → s i = s j → i = j) ∧ (∀ x, x ≠ 12 → (∀ i, i < m → s i ≠ x) → tau x = none) ∧ (∀ i : Nat, i < 12 → S.2.2.2.1 (11, 0) i = some (14, s i)) ∧ S.1 (93, 0) 4 = m ∧ (∀ x : Nat, x < 12 → S.1 (14, x) 0 = 48 * x) ∧ S.1 (15, 0) 0 = 576
def dk_R (S : ty_S) (K : Nat × Nat) (th : Nat) (tau : dk_T) (s : Nat → Nat) (tx : List Int) (pl : Int) (m : Nat) (as : Option mo_M) : Prop := ty_st S ∧ dk_U S tau ∧ dk_L S tau s m ∧ dk_X S tx ∧ (S.1 (93, 0) 2 = pl ∧ -1 ≤ pl ∧ pl ≤ 48) ∧ S.1 (93, 0) 6 = (if as.isSome = true then 1 else 0) ∧ dk_A S K th tau s m as
/-- what comes out: an exception's number, or a value -/
def dk_o : Nat ⊕ Int → ai_O
  | .inl e => .inr e
  | .inr z => .inl (some (.inl (ty_J z)))
theorem dk_Pd {S : ty_S} {tau : dk_T} {s : Nat → Nat} {m : Nat} (hU : dk_U S tau) (hL : dk_L S tau s m) : cs_Pd S (dk_P S tau s m) := by
  refine ⟨⟨rfl, rfl, rfl, rfl⟩, fun i i0 i1 => ?_⟩
  have i1 : i < (m : Int) := i1
  obtain ⟨⟨h1, h2⟩, h3, -, -, h5, -⟩ := hL
  obtain ⟨h6, t, ht⟩ := h2 i.toNat (by omega)
  have hc := h5 i.toNat (by omega)
  rw [show ((i.toNat : Nat) : Int) = i by omega] at hc
  have e12 : s i.toNat ≠ 12 := by omega
  obtain ⟨-, g, -⟩ := hU _ t ht
  have ea : dk_a (s i.toNat) = (14, s i.toNat) := if_neg e12
  rw [ea] at g
  refine ⟨(14, s i.toNat), s i.toNat, hc, .inl ⟨rfl, h6⟩, ?_⟩
  have e1 : (dk_P S tau s m).2.2.2.1 i = dk_nv t := by
    show dk_nb tau (s i.toNat) = dk_nv t
    unfold dk_nb
    rw [show ((s i.toNat : Nat) : Int).toNat = s i.toNat by omega, ht]
  have e2 : (dk_P S tau s m).2.2.2.2 i = (dk_r (s i.toNat) t).2.2.1.map (pt_abs (s i.toNat)) := by
    show dk_gs tau (s i.toNat) = _
    unfold dk_gs
    rw [ht]
  rw [e1, e2]
  exact g
/-- what a search between rounds shows -/
theorem cs_Y_facts {S : ty_S} {P : mo_P} {K : Nat × Nat} {th : Nat} {st came : Int} {sl al ar : Int → Int} {made : Int} {bd : Int → Int} {ch : Int → List Int} {ns : Int} {dn : List Int} {an : Int} {aw : Int → Bool} {todo : List mo_Go} {cs : List mo_Ch} {ans : Int} (h : cs_Y S P K th (st, came, sl, al, ar, (made, bd, ch, ns, dn, an, aw), todo, cs, ans)) (hI : mo_MI P (st, came, sl, al, ar, (made, bd, ch, ns, dn, an, aw), todo, cs, ans)) (hw : mo_wf P.1) :
    ∃ B F E n, cw_V S B F E n P.1 made bd ∧ cv_rv (S.2.2.1 B) (S.2.2.1 F) (S.2.2.1 E) (S.2.2.1 (28, 0)) made bd ch ∧ ca_R S an al ar aw st ∧ S.1 (37, 0) 0 = st ∧ S.1 (17, 0) 12 = ans ∧ S.1 (17, 0) 11 = cs.length ∧ S.1 (13, 0) 5 = came ∧ mo_cw made ns bd ch dn ∧ 0 ≤ ns ∧ ns ≤ 500 := by
  obtain ⟨B, F, E, n, D1, n1, c1, D2, n2, c2, u, W, h1, h2, h3, h4, h5, h6, h7, h8, h9, h10, h11⟩ := h
  obtain ⟨r1, r2, r3, r4, r5, r6, r7, r8, r9, r10, r11, r12⟩ := h1
  obtain ⟨-, -, ⟨-, a2, a3, -⟩, -⟩ := hI
  have cI : ∀ b j, b ≠ (38, 0) → S.1 b j = (cs_C S).1 b j := fun b j hb => (cs_C_I hb).symm
  refine ⟨B, F, E, n, ⟨r1, r2, r3, by rw [cI _ _ (by decide)]; exact r4, r8.1, a2, hw⟩, r8, ?_, by rw [cI _ _ (by decide)]; exact r5.1, by rw [cI _ _ (by decide)]; exact h9.2.2, by rw [cI _ _ (by decide)]; exact h7.1, by rw [cI _ _ (by decide)]; exact h9.1, a3, r12⟩
  unfold ca_R
  rw [cI _ _ (by decide), cI _ _ (by decide)]
  exact h2
section DKC
variable {L : Nat} {xs : Nat → Int32} {S : ty_S} {K : Nat × Nat} {th : Nat} {tau : dk_T} {s : Nat → Nat} {tx : List Int} {pl : Int} {m : Nat} {as : Option mo_M}
/-- count: what is told -/
def dk_cnt (tx : List Int) (pl : Int) (m : Nat) (as : Option mo_M) (w : Int) : Int := if w = 0 then pl else if w = 1 then tx.length else if w = 2 then m else if w = 3 then (match as with | some M => M.2.2.2.2.2.2.2.2 | none => 0) else if w = 4 then (match as with | some M => M.2.2.2.2.2.2.2.1.length | none => 0) else if w = 5 then (match as with | some M => mo_wc M.2.2.2.2.2.1.2.2.2.2.2.2 M.2.2.2.2.2.1.2.2.2.2.2.1.toNat | none => 0) else if w = 6 then (match as with | some M => M.2.1 | none => 0) else -1
theorem dk_count (d : Nat) (hR : dk_R S K th tau s tx pl m as) {w : Int} (hw : -2147483648 ≤ w ∧ w ≤ 2147483647) : ty_C L xs (d + 2) 13 [.inr (.inr (some (93, 0))), .inl (ty_J w)] S (ty_oI fun z S' => z = dk_cnt tx pl m as w ∧ S' = S) := by
  obtain ⟨hS, hU, hL, hX, hpl, hask, hA⟩ := hR
  have har : 0 ≤ S.1 (93, 0) 6 ∧ S.1 (93, 0) 6 ≤ 1 := by rw [hask]; split <;> omega
  have hwf := dk_wf hU
  refine ty_enter (ml := 2) (ls := [_, _]) rfl rfl (Nat.le_of_ble_eq_true rfl) ?_
  refine ty_iload_n (pc := 0) (i := 1) (ks := []) (by decide +kernel) rfl ?_
  -- at 1: .tableswitch 140 0 6 #[43, 48, 53, 58, 77, 96, 118]
  unfold dk_cnt
  by_cases w0 : w = 0
  · subst w0
    refine ty_jmp (pc := 1) (ins := .tableswitch 140 0 6 #[43, 48, 53, 58, 77, 96, 118]) (ks := [141, 44, 49, 54, 59, 78, 97, 119]) (pc' := 44) (st' := []) (by decide +kernel) (by rfl) ?_
    refine ty_aload_n (pc := 44) (i := 0) (ks := []) (by decide +kernel) rfl ?_
    refine ty_getI (pc := 45) (idx := 17) (ci := 0) (f := 2) (by decide +kernel) (by first | rfl | assumption) rfl (by first | exact hS.1 _ _ rfl | assumption) (fun v hv => ?_)
    subst hv
    -- at 48: .ireturn
    refine ty_ret_i (pc := 48) (ks := []) (ty := .int) (by decide +kernel) rfl rfl ?_
    exact ⟨_, rfl, by rw [if_pos rfl]; exact hpl.1, rfl⟩
  rw [if_neg w0]
  by_cases w1 : w = 1
  · subst w1
    refine ty_jmp (pc := 1) (ins := .tableswitch 140 0 6 #[43, 48, 53, 58, 77, 96, 118]) (ks := [141, 44, 49, 54, 59, 78, 97, 119]) (pc' := 49) (st' := []) (by decide +kernel) (by rfl) ?_
    refine ty_aload_n (pc := 49) (i := 0) (ks := []) (by decide +kernel) rfl ?_
    refine ty_getI (pc := 50) (idx := 13) (ci := 0) (f := 1) (by decide +kernel) (by first | rfl | assumption) rfl (by first | exact hS.1 _ _ rfl | assumption) (fun v hv => ?_)
    subst hv
    -- at 53: .ireturn
    refine ty_ret_i (pc := 53) (ks := []) (ty := .int) (by decide +kernel) rfl rfl ?_
    exact ⟨_, rfl, by rw [if_pos rfl]; exact hX.1, rfl⟩
  rw [if_neg w1]
  by_cases w2 : w = 2
  · subst w2
    refine ty_jmp (pc := 1) (ins := .tableswitch 140 0 6 #[43, 48, 53, 58, 77, 96, 118]) (ks := [141, 44, 49, 54, 59, 78, 97, 119]) (pc' := 54) (st' := []) (by decide +kernel) (by rfl) ?_
    refine ty_aload_n (pc := 54) (i := 0) (ks := []) (by decide +kernel) rfl ?_
    refine ty_getI (pc := 55) (idx := 26) (ci := 0) (f := 4) (by decide +kernel) (by first | rfl | assumption) rfl (by first | exact hS.1 _ _ rfl | assumption) (fun v hv => ?_)
    subst hv
    -- at 58: .ireturn
    refine ty_ret_i (pc := 58) (ks := []) (ty := .int) (by decide +kernel) rfl rfl ?_
    exact ⟨_, rfl, by rw [if_pos rfl]; exact hL.2.2.2.2.2.1, rfl⟩
  rw [if_neg w2]
  by_cases w3 : w = 3
  · subst w3
    refine ty_jmp (pc := 1) (ins := .tableswitch 140 0 6 #[43, 48, 53, 58, 77, 96, 118]) (ks := [141, 44, 49, 54, 59, 78, 97, 119]) (pc' := 59) (st' := []) (by decide +kernel) (by rfl) ?_
    refine ty_aload_n (pc := 59) (i := 0) (ks := []) (by decide +kernel) rfl ?_
    refine ty_getI (pc := 60) (idx := 29) (ci := 0) (f := 6) (by decide +kernel) (by first | rfl | assumption) rfl (by first | exact hS.1 _ _ rfl | assumption) (fun v hv => ?_)
    subst hv
    -- at 63: .ifCond .eq 13
    rw [hask]
    cases as with
    | none =>
      refine ty_if_eq (pc := 63) (off := 13) (t := 76) (ks := []) (by decide +kernel) (by omega) (fun hc => ?_) (fun hc => ?_)
      · refine ty_iconst (pc := 76) (n := 0) (ks := []) (by decide +kernel) ?_
        -- at 77: .ireturn
        refine ty_ret_i (pc := 77) (ks := []) (ty := .int) (by decide +kernel) rfl rfl ?_
        exact ⟨_, rfl, by rw [if_pos rfl], rfl⟩
      · exact absurd rfl hc
    | some M =>
      refine ty_if_eq (pc := 63) (off := 13) (t := 76) (ks := []) (by decide +kernel) (by omega) (fun hc => ?_) (fun hc => ?_)
      · exact absurd hc (by simp)
      · obtain ⟨st, came, sl, al, ar, ⟨made, bd, ch, ns, dn, an, aw⟩, todo, cs, ans⟩ := M
        obtain ⟨-, hY, hI⟩ := hA
        obtain ⟨B, F, E, n, v1, v2, v3, v4, v5, v6, v7, -⟩ := cs_Y_facts hY hI hwf
        refine ty_aload_n (pc := 66) (i := 0) (ks := []) (by decide +kernel) rfl ?_
        refine ty_getS (b := (17, 0)) (pc := 67) (idx := 60) (ci := 0) (f := 8) (by decide +kernel) (by first | rfl | assumption) rfl (by first | exact hS.1 _ _ rfl | assumption) (by first | exact hS.2.2 _ _ _ _ rfl | assumption) ?_
        refine ty_getI (pc := 70) (idx := 125) (ci := 5) (f := 12) (by decide +kernel) (by first | rfl | assumption) rfl (by first | exact hS.1 _ _ rfl | assumption) (fun v hv => ?_)
        subst hv
        refine ty_goto (pc := 73) (off := 4) (t := 77) (ks := []) (by decide +kernel) ?_
        -- at 77: .ireturn
        refine ty_ret_i (pc := 77) (ks := []) (ty := .int) (by decide +kernel) rfl rfl ?_
        exact ⟨_, rfl, by rw [if_pos rfl]; exact v5, rfl⟩
  rw [if_neg w3]
  by_cases w4 : w = 4
  · subst w4
    refine ty_jmp (pc := 1) (ins := .tableswitch 140 0 6 #[43, 48, 53, 58, 77, 96, 118]) (ks := [141, 44, 49, 54, 59, 78, 97, 119]) (pc' := 78) (st' := []) (by decide +kernel) (by rfl) ?_
    refine ty_aload_n (pc := 78) (i := 0) (ks := []) (by decide +kernel) rfl ?_
    refine ty_getI (pc := 79) (idx := 29) (ci := 0) (f := 6) (by decide +kernel) (by first | rfl | assumption) rfl (by first | exact hS.1 _ _ rfl | assumption) (fun v hv => ?_)
    subst hv
    -- at 82: .ifCond .eq 13
    rw [hask]
    cases as with
    | none =>
      refine ty_if_eq (pc := 82) (off := 13) (t := 95) (ks := []) (by decide +kernel) (by omega) (fun hc => ?_) (fun hc => ?_)
      · refine ty_iconst (pc := 95) (n := 0) (ks := []) (by decide +kernel) ?_
        -- at 96: .ireturn
        refine ty_ret_i (pc := 96) (ks := []) (ty := .int) (by decide +kernel) rfl rfl ?_
        exact ⟨_, rfl, by rw [if_pos rfl], rfl⟩
      · exact absurd rfl hc
    | some M =>
      refine ty_if_eq (pc := 82) (off := 13) (t := 95) (ks := []) (by decide +kernel) (by omega) (fun hc => ?_) (fun hc => ?_)
      · exact absurd hc (by simp)
      · obtain ⟨st, came, sl, al, ar, ⟨made, bd, ch, ns, dn, an, aw⟩, todo, cs, ans⟩ := M
        obtain ⟨-, hY, hI⟩ := hA
        obtain ⟨B, F, E, n, v1, v2, v3, v4, v5, v6, v7, -⟩ := cs_Y_facts hY hI hwf
        refine ty_aload_n (pc := 85) (i := 0) (ks := []) (by decide +kernel) rfl ?_
        refine ty_getS (b := (17, 0)) (pc := 86) (idx := 60) (ci := 0) (f := 8) (by decide +kernel) (by first | rfl | assumption) rfl (by first | exact hS.1 _ _ rfl | assumption) (by first | exact hS.2.2 _ _ _ _ rfl | assumption) ?_
        refine ty_getI (pc := 89) (idx := 128) (ci := 5) (f := 11) (by decide +kernel) (by first | rfl | assumption) rfl (by first | exact hS.1 _ _ rfl | assumption) (fun v hv => ?_)
        subst hv
        refine ty_goto (pc := 92) (off := 4) (t := 96) (ks := []) (by decide +kernel) ?_
        -- at 96: .ireturn
        refine ty_ret_i (pc := 96) (ks := []) (ty := .int) (by decide +kernel) rfl rfl ?_
        exact ⟨_, rfl, by rw [if_pos rfl]; exact v6, rfl⟩
  rw [if_neg w4]
  by_cases w5 : w = 5
  · subst w5
    refine ty_jmp (pc := 1) (ins := .tableswitch 140 0 6 #[43, 48, 53, 58, 77, 96, 118]) (ks := [141, 44, 49, 54, 59, 78, 97, 119]) (pc' := 97) (st' := []) (by decide +kernel) (by rfl) ?_
    refine ty_aload_n (pc := 97) (i := 0) (ks := []) (by decide +kernel) rfl ?_
    refine ty_getI (pc := 98) (idx := 29) (ci := 0) (f := 6) (by decide +kernel) (by first | rfl | assumption) rfl (by first | exact hS.1 _ _ rfl | assumption) (fun v hv => ?_)
    subst hv
    -- at 101: .ifCond .eq 16
    rw [hask]
    cases as with
    | none =>
      refine ty_if_eq (pc := 101) (off := 16) (t := 117) (ks := []) (by decide +kernel) (by omega) (fun hc => ?_) (fun hc => ?_)
      · refine ty_iconst (pc := 117) (n := 0) (ks := []) (by decide +kernel) ?_
        -- at 118: .ireturn
        refine ty_ret_i (pc := 118) (ks := []) (ty := .int) (by decide +kernel) rfl rfl ?_
        exact ⟨_, rfl, by rw [if_pos rfl], rfl⟩
      · exact absurd rfl hc
    | some M =>
      refine ty_if_eq (pc := 101) (off := 16) (t := 117) (ks := []) (by decide +kernel) (by omega) (fun hc => ?_) (fun hc => ?_)
      · exact absurd hc (by simp)
      · obtain ⟨st, came, sl, al, ar, ⟨made, bd, ch, ns, dn, an, aw⟩, todo, cs, ans⟩ := M
        obtain ⟨-, hY, hI⟩ := hA
        obtain ⟨B, F, E, n, v1, v2, v3, v4, v5, v6, v7, -⟩ := cs_Y_facts hY hI hwf
        refine ty_aload_n (pc := 104) (i := 0) (ks := []) (by decide +kernel) rfl ?_
        refine ty_getS (b := (17, 0)) (pc := 105) (idx := 60) (ci := 0) (f := 8) (by decide +kernel) (by first | rfl | assumption) rfl (by first | exact hS.1 _ _ rfl | assumption) (by first | exact hS.2.2 _ _ _ _ rfl | assumption) ?_
        refine ty_getS (b := (39, 0)) (pc := 108) (idx := 131) (ci := 5) (f := 4) (by decide +kernel) (by first | rfl | assumption) rfl (by first | exact hS.1 _ _ rfl | assumption) (by first | exact hS.2.2 _ _ _ _ rfl | assumption) ?_
        -- at 111: .invokevirtual 135
        refine ty_callv (pc := 111) (idx := 135) (m := 14) (n := 1) (c := 9) (vs := []) (r := []) (by decide +kernel) rfl rfl (Nat.le_of_ble_eq_true rfl) (by first | rfl | assumption) (by first | exact hS.1 _ _ rfl | assumption) (ca_waitingNow d hS v3) ?_
        rintro _ S1 ⟨z, rfl, rfl, rfl⟩
        refine ty_KI ?_
        refine ty_goto (pc := 114) (off := 4) (t := 118) (ks := []) (by decide +kernel) ?_
        -- at 118: .ireturn
        refine ty_ret_i (pc := 118) (ks := []) (ty := .int) (by decide +kernel) rfl rfl ?_
        exact ⟨_, rfl, by rw [if_pos rfl], rfl⟩
  rw [if_neg w5]
  by_cases w6 : w = 6
  · subst w6
    refine ty_jmp (pc := 1) (ins := .tableswitch 140 0 6 #[43, 48, 53, 58, 77, 96, 118]) (ks := [141, 44, 49, 54, 59, 78, 97, 119]) (pc' := 119) (st' := []) (by decide +kernel) (by rfl) ?_
    refine ty_aload_n (pc := 119) (i := 0) (ks := []) (by decide +kernel) rfl ?_
    refine ty_getI (pc := 120) (idx := 29) (ci := 0) (f := 6) (by decide +kernel) (by first | rfl | assumption) rfl (by first | exact hS.1 _ _ rfl | assumption) (fun v hv => ?_)
    subst hv
    -- at 123: .ifCond .eq 16
    rw [hask]
    cases as with
    | none =>
      refine ty_if_eq (pc := 123) (off := 16) (t := 139) (ks := []) (by decide +kernel) (by omega) (fun hc => ?_) (fun hc => ?_)
      · refine ty_iconst (pc := 139) (n := 0) (ks := []) (by decide +kernel) ?_
        -- at 140: .ireturn
        refine ty_ret_i (pc := 140) (ks := []) (ty := .int) (by decide +kernel) rfl rfl ?_
        exact ⟨_, rfl, by rw [if_pos rfl], rfl⟩
      · exact absurd rfl hc
    | some M =>
      refine ty_if_eq (pc := 123) (off := 16) (t := 139) (ks := []) (by decide +kernel) (by omega) (fun hc => ?_) (fun hc => ?_)
      · exact absurd hc (by simp)
      · obtain ⟨st, came, sl, al, ar, ⟨made, bd, ch, ns, dn, an, aw⟩, todo, cs, ans⟩ := M
        obtain ⟨-, hY, hI⟩ := hA
        obtain ⟨B, F, E, n, v1, v2, v3, v4, v5, v6, v7, -⟩ := cs_Y_facts hY hI hwf
        refine ty_aload_n (pc := 126) (i := 0) (ks := []) (by decide +kernel) rfl ?_
        refine ty_getS (b := (17, 0)) (pc := 127) (idx := 60) (ci := 0) (f := 8) (by decide +kernel) (by first | rfl | assumption) rfl (by first | exact hS.1 _ _ rfl | assumption) (by first | exact hS.2.2 _ _ _ _ rfl | assumption) ?_
        refine ty_getS (b := (13, 0)) (pc := 130) (idx := 118) (ci := 5) (f := 1) (by decide +kernel) (by first | rfl | assumption) rfl (by first | exact hS.1 _ _ rfl | assumption) (by first | exact hS.2.2 _ _ _ _ rfl | assumption) ?_
        refine ty_getI (pc := 133) (idx := 141) (ci := 2) (f := 5) (by decide +kernel) (by first | rfl | assumption) rfl (by first | exact hS.1 _ _ rfl | assumption) (fun v hv => ?_)
        subst hv
        refine ty_goto (pc := 136) (off := 4) (t := 140) (ks := []) (by decide +kernel) ?_
        -- at 140: .ireturn
        refine ty_ret_i (pc := 140) (ks := []) (ty := .int) (by decide +kernel) rfl rfl ?_
        exact ⟨_, rfl, by rw [if_pos rfl]; exact v7, rfl⟩
  rw [if_neg w6]
  refine ty_jmp (pc := 1) (ins := .tableswitch 140 0 6 #[43, 48, 53, 58, 77, 96, 118]) (ks := [141, 44, 49, 54, 59, 78, 97, 119]) (pc' := 141) (st' := []) (by decide +kernel) (by (simp only [ai_jmp]; rw [ty_J_toInt hw, if_pos (by omega)]; rfl)) ?_
  refine ty_iconst (pc := 141) (n := (-1)) (ks := []) (by decide +kernel) ?_
  -- at 142: .ireturn
  refine ty_ret_i (pc := 142) (ks := []) (ty := .int) (by decide +kernel) rfl rfl ?_
  exact ⟨_, rfl, rfl, rfl⟩
end DKC
