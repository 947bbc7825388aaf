/-! A clause comes, a clause goes. -/
section DKB
variable {L : Nat} {xs : Nat → Int32} {S : ty_S} {K : Nat × Nat} {th : Nat} {tau : dk_T} {s : Nat → Nat} {tx : List Int} {pl : Int} {m : Nat} {as : Option mo_M}
theorem dk_add (d : Nat) (hR : dk_R S K th tau s tx pl m as) : ty_C L xs (d + 16) 18 [.inr (.inr (some (93, 0)))] S (fun o S' => dk_W S S' ∧ ∃ th', th' ≤ th + 1 ∧ ((m = 12 ∧ o = dk_o (.inl 1) ∧ dk_R S' K th' tau s [] pl m as ∧ dk_P S' tau s m = dk_P S tau s m) ∨
    (m < 12 ∧ (dk_r 0 tx).1 = false ∧ o = dk_o (.inl 0) ∧ dk_R S' K th' tau s [] (dk_r 0 tx).2.1 m as) ∨ (m < 12 ∧ (dk_r 0 tx).1 = true ∧ o = dk_o (.inr (m + 1)) ∧ dk_R S' K th' (dk_tp (dk_tq tau) (s m) tx) s [] pl (m + 1) none))) := by
  obtain ⟨hS, hU, hL, hX, hpl, hask, hA⟩ := hR
  have x1 := hX.1
  have x2 := hX.2.1
  refine ty_enter (ml := 2) (ls := [_, _]) rfl rfl (Nat.le_of_ble_eq_true rfl) ?_
  refine ty_aload_n (pc := 0) (i := 0) (ks := []) (by decide +kernel) rfl ?_
  refine ty_getI (pc := 1) (idx := 13) (ci := 0) (f := 1) (by decide +kernel) (by first | rfl | assumption) rfl (by first | exact hS.1 _ _ rfl | assumption) (fun v hv => ?_)
  subst hv
  refine ty_istore_n (pc := 4) (i := 1) (ks := []) (ls' := [_, _]) (by decide +kernel) rfl ?_
  refine ty_aload_n (pc := 5) (i := 0) (ks := []) (by decide +kernel) rfl ?_
  refine ty_iconst (pc := 6) (n := 0) (ks := []) (by decide +kernel) ?_
  refine ty_putI (pc := 7) (idx := 13) (ci := 0) (f := 1) (by decide +kernel) (by first | rfl | assumption) rfl rfl (by first | exact hS.1 _ _ rfl | assumption) ?_
  -- at 10: .aload_n 0
  rw [x1]
  generalize hT : ty_sI S (93, 0) 1 0 = T
  have nI : ∀ b j, ¬ (b = (93, 0) ∧ j = 1) → T.1 b j = S.1 b j := fun b j hb => by
    rw [← hT]
    exact ty_sI_ne hb
  have e2 : T.2 = S.2 := by rw [← hT]; rfl
  have iL : T.1 (93, 0) 1 = 0 := by rw [← hT]; exact ty_sI_at
  have hST : ty_st T := by rw [← hT]; exact hS
  clear hT
  have hNT : cs_N S T := dk_N_own hST e2 (fun b j hb => nI b j (fun w => hb w.1))
  have h14T : ∀ b : ai_A, b.1 = 14 ∨ b.1 = 15 → ∀ j, T.1 b j = S.1 b j := fun b hb j => nI b j (fun w => by rw [w.1] at hb; exact absurd hb (by decide))
  have hXe : dk_X T [] := ⟨iL, Nat.zero_le _, fun c hc => (nomatch hc), trivial, by rw [e2]; exact hX.2.2.2.2⟩
  have hRT : dk_R T K th tau s [] pl m as := dk_R_keep ⟨hS, hU, hL, hX, hpl, hask, hA⟩ hNT h14T (fun _ _ => by rw [e2]) (by rw [e2]) (nI _ _ (by decide)) hXe (by rw [nI _ _ (by decide)]; exact hpl) (nI _ _ (by decide)) (fun _ _ _ _ _ h => by unfold cs_k at h ⊢; rw [e2]; exact h)
  have ePT : dk_P T tau s m = dk_P S tau s m := dk_P_eq (fun _ _ => by rw [e2])
  have hWT : dk_W S T := dk_W_of (by rw [e2]) (fun b j _ h2 => nI b j (fun w => h2 (by rw [w.1]))) (fun _ _ _ _ => by rw [e2])
  have hhT : cr_h T tx.length = dk_f tx := by
    rw [← dk_h hX]
    unfold cr_h
    rw [e2]
  have hnzT : ∀ i, 0 ≤ i → i < (tx.length : Int) → T.2.2.1 (10, 0) i ≠ 0 := by rw [e2]; exact dk_nz hX
  have hchT : ∀ i, 0 ≤ i → i < 48 → 0 ≤ T.2.2.1 (10, 0) i ∧ T.2.2.1 (10, 0) i ≤ 65535 := by rw [e2]; exact hX.2.2.2.2
  have hRT0 := hRT
  obtain ⟨-, hUT, hLT, -, hplT, haskT, hAT⟩ := hRT
  have hcc : T.1 (93, 0) 4 = m := hLT.2.2.2.2.2.1
  have hm12 := hLT.1.1
  have hS := hST
  refine ty_aload_n (pc := 10) (i := 0) (ks := []) (by decide +kernel) rfl ?_
  refine ty_getI (pc := 11) (idx := 26) (ci := 0) (f := 4) (by decide +kernel) (by first | rfl | assumption) rfl (by first | exact hS.1 _ _ rfl | assumption) (fun v hv => ?_)
  subst hv
  refine ty_bipush (pc := 14) (n := 12) (ks := []) (by decide +kernel) (by omega) ?_
  -- at 16: .if_icmp .lt 11
  rw [hcc]
  refine ty_icmp_lt (pc := 16) (off := 11) (t := 27) (ks := []) (by decide +kernel) (by omega) (by omega) (fun hc => ?_) (fun hc => ?_)
  rotate_left
  · refine ty_throw (pc := 19) (ins := .new 74) (x := 1) (by decide +kernel) (Nat.le_of_ble_eq_true rfl) ?_
    exact ⟨hWT.trans dk_W_th, th + 1, Nat.le_refl _, .inl ⟨by omega, rfl, dk_R_th hRT0, ePT⟩⟩
  have hlt : m < 12 := by omega
  clear hc
  have hsm : s m < 12 := hLT.2.1 m hlt
  have hcl := hLT.2.2.2.2.1 m hlt
  have hnone : tau (s m) = none := hLT.2.2.2.1 (s m) (by omega) (fun i hi z => by have := hLT.2.2.1 i m (by omega) hlt z; omega)
  have ea : dk_a (s m) = (14, s m) := if_neg (by omega)
  have hrd := cr_readClause (L := L) (xs := xs) (S := T) (n := tx.length) (a := (14, s m)) (x := s m) d hST (.inl ⟨rfl, hsm⟩) (hLT.2.2.2.2.2.2.1 (s m) hsm) (m := tx.length) rfl ⟨by omega, by omega⟩ hchT hnzT
  rw [hhT] at hrd
  have er : ∀ x, x ≠ 12 → dk_r x tx = pt_c (dk_f tx) := fun x hx => if_neg hx
  rw [← er 0 (by decide)] at hrd
  refine ty_aload_n (pc := 27) (i := 0) (ks := []) (by decide +kernel) rfl ?_
  refine ty_getS (b := (16, 0)) (pc := 28) (idx := 51) (ci := 0) (f := 7) (by decide +kernel) (by first | rfl | assumption) rfl (by first | exact hS.1 _ _ rfl | assumption) (by first | exact hS.2.2 _ _ _ _ rfl | assumption) ?_
  refine ty_aload_n (pc := 31) (i := 0) (ks := []) (by decide +kernel) rfl ?_
  refine ty_getS (b := (10, 0)) (pc := 32) (idx := 9) (ci := 0) (f := 0) (by decide +kernel) (by first | rfl | assumption) rfl (by first | exact hS.1 _ _ rfl | assumption) (by first | exact hS.2.2 _ _ _ _ rfl | assumption) ?_
  refine ty_iload_n (pc := 35) (i := 1) (ks := []) (by decide +kernel) rfl ?_
  refine ty_aload_n (pc := 36) (i := 0) (ks := []) (by decide +kernel) rfl ?_
  refine ty_getS (b := (11, 0)) (pc := 37) (idx := 22) (ci := 0) (f := 3) (by decide +kernel) (by first | rfl | assumption) rfl (by first | exact hS.1 _ _ rfl | assumption) (by first | exact hS.2.2 _ _ _ _ rfl | assumption) ?_
  refine ty_aload_n (pc := 40) (i := 0) (ks := []) (by decide +kernel) rfl ?_
  refine ty_getI (pc := 41) (idx := 26) (ci := 0) (f := 4) (by decide +kernel) (by first | rfl | assumption) rfl (by first | exact hS.1 _ _ rfl | assumption) (fun v hv => ?_)
  subst hv
  -- at 44: .aaload
  rw [hcc]
  refine ty_aaload (pc := 44) (ks := []) (by decide +kernel) (by rfl) (by rfl) (hS.1 _ _ rfl) (hS.2.1 _ _ _ rfl) (by omega) (fun v hv => ?_)
  rw [hcl] at hv
  subst hv
  refine ty_callv (pc := 45) (idx := 77) (m := 19) (n := 4) (c := 4) (vs := [_, _, _]) (r := []) (by decide +kernel) rfl rfl (Nat.le_of_ble_eq_true rfl) (by first | rfl | assumption) (by first | exact hS.1 _ _ rfl | assumption) hrd ?_
  rintro _ S2 ⟨z, rfl, hz, hF, hat, hGd⟩
  refine ty_KI ?_
  rw [← ea] at hF hGd
  obtain ⟨eTx, eD⟩ := dk_X_cr hF
  have hS2 := hF.1
  have hU2 := dk_U_cr hUT hF hnone
  have hL2 := dk_L_cr hLT hF
  have hN2 := hF.N
  have hk2 : ∀ n1 c1 n2 c2 n, cs_k T K n1 c1 n2 c2 n th → cs_k S2 K n1 c1 n2 c2 n th := fun _ _ _ _ _ h => by unfold cs_k at h ⊢; rw [hF.2.1]; exact h
  have hI2 := cs_I_N (dk_A_I hAT) hN2 hk2
  have hW2 := hWT.trans hF.W
  have hX2 : dk_X S2 [] := ⟨by rw [eD]; exact hXe.1, Nat.zero_le _, fun c hc => (nomatch hc), trivial, by rw [eTx]; exact hXe.2.2.2.2⟩
  have hS := hS2
  cases hok : (dk_r 0 tx).1 with
  | false =>
    rw [hok, if_neg (by decide)] at hz
    subst hz
    have hspec := pt_c_spec (h := dk_f tx) (n := tx.length) (fun p hp => dk_f_n hp) (by omega)
    rw [← er 0 (by decide)] at hspec
    refine ty_if_ne (pc := 48) (off := 22) (t := 70) (ks := []) (by decide +kernel) (by omega) (fun hc => ?_) (fun hc => ?_)
    · exact absurd rfl hc
    · refine ty_aload_n (pc := 51) (i := 0) (ks := []) (by decide +kernel) rfl ?_
      refine ty_aload_n (pc := 52) (i := 0) (ks := []) (by decide +kernel) rfl ?_
      refine ty_getS (b := (16, 0)) (pc := 53) (idx := 51) (ci := 0) (f := 7) (by decide +kernel) (by first | rfl | assumption) rfl (by first | exact hS.1 _ _ rfl | assumption) (by first | exact hS.2.2 _ _ _ _ rfl | assumption) ?_
      refine ty_getI (pc := 56) (idx := 81) (ci := 4) (f := 3) (by decide +kernel) (by first | rfl | assumption) rfl (by first | exact hS.1 _ _ rfl | assumption) (fun v hv => ?_)
      subst hv
      refine ty_putI (pc := 59) (idx := 17) (ci := 0) (f := 2) (by decide +kernel) (by first | rfl | assumption) rfl rfl (by first | exact hS.1 _ _ rfl | assumption) ?_
      -- at 62: .new 71
      rw [hat]
      refine ty_throw (pc := 62) (ins := .new 71) (x := 0) (by decide +kernel) (Nat.le_of_ble_eq_true rfl) ?_
      have nI3 : ∀ b j, ¬ (b = (93, 0) ∧ j = 2) → (ty_sI S2 (93, 0) 2 (dk_r 0 tx).2.1).1 b j = S2.1 b j := fun b j hb => if_neg hb
      have hN3 : cs_N S2 (ty_sI S2 (93, 0) 2 (dk_r 0 tx).2.1) := dk_N_own hS2 rfl (fun b j hb => nI3 b j (fun w => hb w.1))
      have hU3 : dk_U (ty_sI S2 (93, 0) 2 (dk_r 0 tx).2.1) tau := dk_U_keep hU2 (fun b hb j => nI3 b j (fun w => by rw [w.1] at hb; exact absurd hb (by decide))) (fun _ _ => rfl)
      have hL3 : dk_L (ty_sI S2 (93, 0) 2 (dk_r 0 tx).2.1) tau s m := by
        obtain ⟨l1, l2, l3, l4, l5, l6, l7, l8⟩ := hL2
        exact ⟨l1, l2, l3, l4, l5, by rw [nI3 _ _ (by decide)]; exact l6, fun x hx => by rw [nI3 _ _ (by simp)]; exact l7 x hx, by rw [nI3 _ _ (by decide)]; exact l8⟩
      refine ⟨(hW2.trans (dk_W_of (S' := ty_sI S2 (93, 0) 2 (dk_r 0 tx).2.1) rfl (fun b j _ h2 => nI3 b j (fun w => h2 (by rw [w.1]))) (fun _ _ _ _ => rfl))).trans dk_W_th, th + 1, Nat.le_refl _, .inr (.inl ⟨hlt, rfl, rfl, dk_R_th ⟨hS2, hU3, hL3, ⟨by rw [nI3 _ _ (by decide)]; exact hX2.1, hX2.2⟩, ⟨ty_sI_at, by omega, by omega⟩, ?_, ?_⟩⟩)⟩
      · rw [nI3 _ _ (by decide), eD]
        exact haskT
      · cases as with
        | none => exact ⟨hAT.1, cs_I_N hI2 hN3 (fun _ _ _ _ _ h => h)⟩
        | some M => exact ⟨hAT.1, cs_Y_N (cs_Y_N hAT.2.1 hN2 (dk_Pd hU2 hL2) rfl hk2) hN3 (dk_Pd hU3 hL3) rfl (fun _ _ _ _ _ h => h), dk_MI_E hUT hU3 hLT.1 hAT.2.2⟩
  | true =>
    rw [hok, if_pos rfl] at hz
    subst hz
    have hG2 := hGd hok
    have hokd : dk_ok (s m) tx := ⟨by omega, x2, hX.2.2.1, by rw [er _ (by omega), ← er 0 (by decide)]; exact hok⟩
    have hG3 : cr_G S2 (dk_f tx) tx.length tx.length (dk_a (s m)) (s m) (dk_r (s m) tx).2.2.1 (dk_r (s m) tx).2.2.2 := by
      rw [er (s m) (by omega), ← er 0 (by decide)]
      exact hG2
    have hU3 : dk_U S2 (dk_tp (dk_tq tau) (s m) tx) := dk_U_tp (dk_U_tq hU2) hokd hG3
    refine ty_if_ne (pc := 48) (off := 22) (t := 70) (ks := []) (by decide +kernel) (by omega) (fun hc => ?_) (fun hc => ?_)
    rotate_left
    · exact absurd hc (by decide)
    clear hc
    have hcc2 : S2.1 (93, 0) 4 = m := by rw [eD]; exact hcc
    refine ty_aload_n (pc := 70) (i := 0) (ks := []) (by decide +kernel) rfl ?_
    refine ty_dup (pc := 71) (ks := []) (by decide +kernel) rfl ?_
    refine ty_getI (pc := 72) (idx := 26) (ci := 0) (f := 4) (by decide +kernel) (by first | rfl | assumption) rfl (by first | exact hS.1 _ _ rfl | assumption) (fun v hv => ?_)
    subst hv
    refine ty_iconst (pc := 75) (n := 1) (ks := []) (by decide +kernel) ?_
    refine ty_iadd (pc := 76) (ks := []) (by decide +kernel) ?_
    refine ty_putI (pc := 77) (idx := 26) (ci := 0) (f := 4) (by decide +kernel) (by first | rfl | assumption) rfl rfl (by first | exact hS.1 _ _ rfl | assumption) ?_
    refine ty_aload_n (pc := 80) (i := 0) (ks := []) (by decide +kernel) rfl ?_
    refine ty_iconst (pc := 81) (n := 0) (ks := []) (by decide +kernel) ?_
    refine ty_putZ (pc := 82) (idx := 29) (ci := 0) (f := 6) (by decide +kernel) (by first | rfl | assumption) rfl rfl (by first | exact hS.1 _ _ rfl | assumption) (by omega) ?_
    -- at 85: .aload_n 0
    rw [hcc2]
    generalize hT4 : ty_sI (ty_sI S2 (93, 0) 4 ((m : Int) + 1)) (93, 0) 6 0 = S4
    have nI4 : ∀ b j, ¬ (b = (93, 0) ∧ (j = 4 ∨ j = 6)) → S4.1 b j = S2.1 b j := fun b j hb => by
      rw [← hT4]
      exact (ty_sI_ne (fun w => hb ⟨w.1, .inr w.2⟩)).trans (ty_sI_ne (fun w => hb ⟨w.1, .inl w.2⟩))
    have e4 : S4.2 = S2.2 := by rw [← hT4]; rfl
    have i4 : S4.1 (93, 0) 4 = (m : Int) + 1 ∧ S4.1 (93, 0) 6 = 0 := by
      rw [← hT4]
      exact ⟨(ty_sI_ne (by decide)).trans ty_sI_at, ty_sI_at⟩
    have hS4 : ty_st S4 := by rw [← hT4]; exact hS2
    clear hT4
    have hS := hS4
    refine ty_aload_n (pc := 85) (i := 0) (ks := []) (by decide +kernel) rfl ?_
    refine ty_getI (pc := 86) (idx := 26) (ci := 0) (f := 4) (by decide +kernel) (by first | rfl | assumption) rfl (by first | exact hS.1 _ _ rfl | assumption) (fun v hv => ?_)
    subst hv
    -- at 89: .ireturn
    rw [i4.1]
    refine ty_ret_i (pc := 89) (ks := []) (ty := .int) (by decide +kernel) rfl rfl ?_
    have hN4 : cs_N S2 S4 := dk_N_own hS4 e4 (fun b j hb => nI4 b j (fun w => hb w.1))
    have h14 : ∀ b : ai_A, b.1 = 14 ∨ b.1 = 15 → ∀ j, S4.1 b j = S2.1 b j := fun b hb j => nI4 b j (fun w => by rw [w.1] at hb; exact absurd hb (by decide))
    refine ⟨hW2.trans (dk_W_of (by rw [e4]) (fun b j _ h2 => nI4 b j (fun w => h2 (by rw [w.1]))) (fun _ _ _ _ => by rw [e4])), th, Nat.le_succ _, .inr (.inr ⟨hlt, rfl, rfl, hS4, dk_U_keep hU3 h14 (fun _ _ => by rw [e4]), ?_, ⟨by rw [nI4 _ _ (by decide)]; exact hX2.1, Nat.zero_le _, fun c hc => (nomatch hc), trivial, by rw [e4]; exact hX2.2.2.2.2⟩, ⟨by rw [nI4 _ _ (by decide), eD]; exact hplT.1, hplT.2⟩, i4.2, ?_⟩)⟩
    · obtain ⟨l1, l2, l3, l4, l5, l6, l7, l8⟩ := hL2
      refine ⟨⟨by omega, fun i hi => ?_⟩, l2, l3, fun x hx hi => ?_, by rw [e4]; exact l5, by rw [i4.1]; omega, fun x hx => by rw [h14 _ (.inl rfl)]; exact l7 x hx, by rw [h14 _ (.inr rfl)]; exact l8⟩
      · by_cases e : i = m
        · rw [e]
          exact ⟨hsm, tx, if_pos rfl⟩
        · obtain ⟨b1, t, b2⟩ := l1.2 i (by omega)
          refine ⟨b1, t, ?_⟩
          unfold dk_tp dk_tq
          rw [if_neg (fun z => by have := l3 i m (by omega) hlt z; omega), if_neg (by omega)]
          exact b2
      · unfold dk_tp dk_tq
        rw [if_neg (fun z => hi m (by omega) z.symm), if_neg hx]
        exact l4 x hx (fun i h9 => hi i (by omega))
    · refine ⟨?_, cs_I_N hI2 hN4 (fun _ _ _ _ _ h => by unfold cs_k at h ⊢; rw [e4]; exact h)⟩
      unfold dk_tp
      rw [if_neg (by omega)]
      exact dk_tq_12
/-- the slots once clause i is gone -/
def dk_rot (s : Nat → Nat) (i m : Nat) : Nat → Nat := fun k => if k < i then s k else if k < m - 1 then s (k + 1) else if k = m - 1 then s i else s k
/-- while it is moved: those up to k moved already -/
def dk_mv (s : Nat → Nat) (i k : Nat) : Nat → Nat := fun j => if i ≤ j ∧ j < k then s (j + 1) else s j
def dk_to (tau : dk_T) (x : Nat) : dk_T := fun y => if y = x then none else tau y
theorem dk_drop (d : Nat) (hR : dk_R S K th tau s tx pl m as) {i : Int} (hi : -2147483648 ≤ i ∧ i ≤ 2147483647) : ty_C L xs (d + 1) 34 [.inr (.inr (some (93, 0))), .inl (ty_J i)] S (fun o S' => dk_W S S' ∧ (((i < 0 ∨ (m : Int) ≤ i) ∧ o = dk_o (.inl 0) ∧ S' = ty_th S) ∨ (0 ≤ i ∧ i < (m : Int) ∧ o = .inl none ∧ dk_R S' K th (dk_to (dk_tq tau) (s i.toNat)) (dk_rot s i.toNat m) tx pl (m - 1) none))) := by
  obtain ⟨hS, hU, hL, hX, hpl, hask, hA⟩ := hR
  obtain ⟨l1, l2, l3, l4, l5, l6, l7, l8⟩ := hL
  have hm12 := l1.1
  have hmr : 0 ≤ S.1 (93, 0) 4 ∧ S.1 (93, 0) 4 ≤ 12 := by rw [l6]; omega
  refine ty_enter (ml := 4) (ls := [_, _, _, _]) rfl rfl (Nat.le_of_ble_eq_true rfl) ?_
  refine ty_iload_n (pc := 0) (i := 1) (ks := []) (by decide +kernel) rfl ?_
  -- at 1: .ifCond .lt 11
  refine ty_if_lt (pc := 1) (off := 11) (t := 12) (ks := []) (by decide +kernel) (by omega) (fun hc => ?_) (fun hc => ?_)
  · refine ty_throw (pc := 12) (ins := .new 71) (x := 0) (by decide +kernel) (Nat.le_of_ble_eq_true rfl) ?_
    exact ⟨dk_W_th, .inl ⟨.inl hc, rfl, rfl⟩⟩
  have hi0 := hc
  refine ty_iload_n (pc := 4) (i := 1) (ks := []) (by decide +kernel) rfl ?_
  refine ty_aload_n (pc := 5) (i := 0) (ks := []) (by decide +kernel) rfl ?_
  refine ty_getI (pc := 6) (idx := 26) (ci := 0) (f := 4) (by decide +kernel) (by first | rfl | assumption) rfl (by first | exact hS.1 _ _ rfl | assumption) (fun v hv => ?_)
  subst hv
  -- at 9: .if_icmp .lt 11
  refine ty_icmp_lt (pc := 9) (off := 11) (t := 20) (ks := []) (by decide +kernel) (by omega) (by omega) (fun hc => ?_) (fun hc => ?_)
  rotate_left
  · refine ty_throw (pc := 12) (ins := .new 71) (x := 0) (by decide +kernel) (Nat.le_of_ble_eq_true rfl) ?_
    exact ⟨dk_W_th, .inl ⟨.inr (by omega), rfl, rfl⟩⟩
  have him : i < (m : Int) := by omega
  clear hc
  obtain ⟨k0, rfl⟩ : ∃ k : Nat, i = k := ⟨i.toNat, by omega⟩
  have hk12 : k0 < 12 := by omega
  refine ty_aload_n (pc := 20) (i := 0) (ks := []) (by decide +kernel) rfl ?_
  refine ty_getS (b := (11, 0)) (pc := 21) (idx := 22) (ci := 0) (f := 3) (by decide +kernel) (by first | rfl | assumption) rfl (by first | exact hS.1 _ _ rfl | assumption) (by first | exact hS.2.2 _ _ _ _ rfl | assumption) ?_
  refine ty_iload_n (pc := 24) (i := 1) (ks := []) (by decide +kernel) rfl ?_
  -- at 25: .aaload
  refine ty_aaload (pc := 25) (ks := []) (by decide +kernel) (by rfl) (by rfl) (hS.1 _ _ rfl) (hS.2.1 _ _ _ rfl) (by omega) (fun v hv => ?_)
  rw [l5 k0 hk12] at hv
  subst hv
  refine ty_astore_n (pc := 26) (i := 2) (ks := []) (ls' := [_, _, _, _]) (by decide +kernel) rfl ?_
  refine ty_aload_n (pc := 27) (i := 0) (ks := []) (by decide +kernel) rfl ?_
  refine ty_dup (pc := 28) (ks := []) (by decide +kernel) rfl ?_
  refine ty_getI (pc := 29) (idx := 26) (ci := 0) (f := 4) (by decide +kernel) (by first | rfl | assumption) rfl (by first | exact hS.1 _ _ rfl | assumption) (fun v hv => ?_)
  subst hv
  refine ty_iconst (pc := 32) (n := 1) (ks := []) (by decide +kernel) ?_
  refine ty_isub (pc := 33) (ks := []) (by decide +kernel) ?_
  refine ty_putI (pc := 34) (idx := 26) (ci := 0) (f := 4) (by decide +kernel) (by first | rfl | assumption) rfl rfl (by first | exact hS.1 _ _ rfl | assumption) ?_
  -- at 37: .iload_n 1
  rw [l6]
  generalize hT : ty_sI S (93, 0) 4 ((m : Int) - 1) = T
  have nI : ∀ b j, ¬ (b = (93, 0) ∧ j = 4) → T.1 b j = S.1 b j := fun b j hb => by
    rw [← hT]
    exact ty_sI_ne hb
  have e2 : T.2 = S.2 := by rw [← hT]; rfl
  have iC : T.1 (93, 0) 4 = (m : Int) - 1 := by rw [← hT]; exact ty_sI_at
  have hST : ty_st T := by rw [← hT]; exact hS
  clear hT
  -- the end, once all are moved
  have fin : ∀ (f : Int → Option ai_A), (∀ j : Nat, j < 12 → f j = some (14, dk_mv s k0 (m - 1) j)) → ty_W L xs d 34 67 [some (.inr (.inr (some (93, 0)))), some (.inl (ty_J k0)), some (.inr (.inr (some (14, s k0)))), some (.inl (ty_J ((m : Int) - 1)))] [] (ty_mQ T (11, 0) f) (fun o S' => dk_W S S' ∧ ((((k0 : Int) < 0 ∨ (m : Int) ≤ k0) ∧ o = dk_o (.inl 0) ∧ S' = ty_th S) ∨ (0 ≤ (k0 : Int) ∧ (k0 : Int) < (m : Int) ∧ o = .inl none ∧ dk_R S' K th (dk_to (dk_tq tau) (s (k0 : Int).toNat)) (dk_rot s (k0 : Int).toNat m) tx pl (m - 1) none))) := by
    intro f hf
    have hS : ty_st (ty_mQ T (11, 0) f) := hST
    have iC2 : (ty_mQ T (11, 0) f).1 (93, 0) 4 = (m : Int) - 1 := iC
    have hp14 : ((14, s k0) : ai_A).2 < (ty_mQ T (11, 0) f).2.2.2.2.2.2.1 ((14, s k0) : ai_A).1 := by
      have h11 : 11 < (ty_mQ T (11, 0) f).2.2.2.2.2.2.1 14 := hST.1 14 11 (by decide +kernel)
      have := l2 k0 hk12
      show s k0 < _
      omega
    have hs14 : ty_sk ((14, s k0) : ai_A).1 = (1, 3) := by show ty_sk 14 = (1, 3); decide +kernel
    refine ty_aload_n (pc := 67) (i := 0) (ks := []) (by decide +kernel) rfl ?_
    refine ty_getS (b := (11, 0)) (pc := 68) (idx := 22) (ci := 0) (f := 3) (by decide +kernel) (by first | rfl | assumption) rfl (by first | exact hS.1 _ _ rfl | assumption) (by first | exact hS.2.2 _ _ _ _ rfl | assumption) ?_
    refine ty_aload_n (pc := 71) (i := 0) (ks := []) (by decide +kernel) rfl ?_
    refine ty_getI (pc := 72) (idx := 26) (ci := 0) (f := 4) (by decide +kernel) (by first | rfl | assumption) rfl (by first | exact hS.1 _ _ rfl | assumption) (fun v hv => ?_)
    subst hv
    refine ty_aload_n (pc := 75) (i := 2) (ks := []) (by decide +kernel) rfl ?_
    -- at 76: .aastore
    sorry
  sorry
end DKB
