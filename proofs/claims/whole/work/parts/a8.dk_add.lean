/-! A clause comes, a clause goes. -/
section DKB
variable {L : Nat} {xs : Nat → Int32} {S : ty_S} {K : Nat × Nat} {th : Nat} {tau : dk_T} {s : Nat → Nat} {tx : List Int} {pl : Int} {m : Nat} {as : Option mo_M}
theorem dk_add (d : Nat) (hR : dk_R S K th tau s tx pl m as) : ty_C L xs (d + 16) 18 [.inr (.inr (some (93, 0)))] S (fun o S' => dk_W S S' ∧ ∃ th', th' ≤ th + 1 ∧ ((m = 12 ∧ o = dk_o (.inl 1) ∧ dk_R S' K th' tau s [] pl m as ∧ dk_P S' tau s m = dk_P S tau s m) ∨
    (m < 12 ∧ (dk_r 0 tx).1 = false ∧ o = dk_o (.inl 0) ∧ dk_R S' K th' tau s [] (dk_r 0 tx).2.1 m as) ∨ (m < 12 ∧ (dk_r 0 tx).1 = true ∧ o = dk_o (.inr (m + 1)) ∧ dk_R S' K th' (dk_tp (dk_tq tau) (s m) tx) s [] pl (m + 1) none))) := by
  obtain ⟨hS, hU, hL, hX, hpl, hask, hA⟩ := hR
  have x1 := hX.1
  have x2 := hX.2.1
  refine ty_enter (ml := 2) (ls := [_, _]) rfl rfl (Nat.le_of_ble_eq_true rfl) ?_
  refine ty_aload_n (pc := 0) (i := 0) (ks := []) (by decide +kernel) rfl ?_
  refine ty_getI (pc := 1) (idx := 13) (ci := 0) (f := 1) (by decide +kernel) (by first | rfl | assumption) rfl (by first | exact hS.1 _ _ rfl | assumption) (fun v hv => ?_)
  subst hv
  refine ty_istore_n (pc := 4) (i := 1) (ks := []) (ls' := [_, _]) (by decide +kernel) rfl ?_
  refine ty_aload_n (pc := 5) (i := 0) (ks := []) (by decide +kernel) rfl ?_
  refine ty_iconst (pc := 6) (n := 0) (ks := []) (by decide +kernel) ?_
  refine ty_putI (pc := 7) (idx := 13) (ci := 0) (f := 1) (by decide +kernel) (by first | rfl | assumption) rfl rfl (by first | exact hS.1 _ _ rfl | assumption) ?_
  -- at 10: .aload_n 0
  rw [x1]
  generalize hT : ty_sI S (93, 0) 1 0 = T
  have nI : ∀ b j, ¬ (b = (93, 0) ∧ j = 1) → T.1 b j = S.1 b j := fun b j hb => by
    rw [← hT]
    exact ty_sI_ne hb
  have e2 : T.2 = S.2 := by rw [← hT]; rfl
  have iL : T.1 (93, 0) 1 = 0 := by rw [← hT]; exact ty_sI_at
  have hST : ty_st T := by rw [← hT]; exact hS
  clear hT
  have hNT : cs_N S T := dk_N_own hST e2 (fun b j hb => nI b j (fun w => hb w.1))
  have h14T : ∀ b : ai_A, b.1 = 14 ∨ b.1 = 15 → ∀ j, T.1 b j = S.1 b j := fun b hb j => nI b j (fun w => by rw [w.1] at hb; exact absurd hb (by decide))
  have hXe : dk_X T [] := ⟨iL, Nat.zero_le _, fun c hc => (nomatch hc), trivial, by rw [e2]; exact hX.2.2.2.2⟩
  have hRT : dk_R T K th tau s [] pl m as := dk_R_keep ⟨hS, hU, hL, hX, hpl, hask, hA⟩ hNT h14T (fun _ _ => by rw [e2]) (by rw [e2]) (nI _ _ (by decide)) hXe (by rw [nI _ _ (by decide)]; exact hpl) (nI _ _ (by decide)) (fun _ _ _ _ _ h => by unfold cs_k at h ⊢; rw [e2]; exact h)
  have ePT : dk_P T tau s m = dk_P S tau s m := dk_P_eq (fun _ _ => by rw [e2])
  have hWT : dk_W S T := dk_W_of (by rw [e2]) (fun b j _ h2 => nI b j (fun w => h2 (by rw [w.1]))) (fun _ _ _ _ => by rw [e2])
  have hhT : cr_h T tx.length = dk_f tx := by
    rw [← dk_h hX]
    unfold cr_h
    rw [e2]
  have hnzT : ∀ i, 0 ≤ i → i < (tx.length : Int) → T.2.2.1 (10, 0) i ≠ 0 := by rw [e2]; exact dk_nz hX
  have hchT : ∀ i, 0 ≤ i → i < 48 → 0 ≤ T.2.2.1 (10, 0) i ∧ T.2.2.1 (10, 0) i ≤ 65535 := by rw [e2]; exact hX.2.2.2.2
  have hRT0 := hRT
  obtain ⟨-, hUT, hLT, -, hplT, haskT, hAT⟩ := hRT
  have hcc : T.1 (93, 0) 4 = m := hLT.2.2.2.2.2.1
  have hm12 := hLT.1.1
  have hS := hST
  refine ty_aload_n (pc := 10) (i := 0) (ks := []) (by decide +kernel) rfl ?_
  refine ty_getI (pc := 11) (idx := 26) (ci := 0) (f := 4) (by decide +kernel) (by first | rfl | assumption) rfl (by first | exact hS.1 _ _ rfl | assumption) (fun v hv => ?_)
  subst hv
  refine ty_bipush (pc := 14) (n := 12) (ks := []) (by decide +kernel) (by omega) ?_
  -- at 16: .if_icmp .lt 11
  rw [hcc]
  refine ty_icmp_lt (pc := 16) (off := 11) (t := 27) (ks := []) (by decide +kernel) (by omega) (by omega) (fun hc => ?_) (fun hc => ?_)
  rotate_left
  · refine ty_throw (pc := 19) (ins := .new 74) (x := 1) (by decide +kernel) (Nat.le_of_ble_eq_true rfl) ?_
    exact ⟨hWT.trans dk_W_th, th + 1, Nat.le_refl _, .inl ⟨by omega, rfl, dk_R_th hRT0, ePT⟩⟩
  have hlt : m < 12 := by omega
  clear hc
  have hsm : s m < 12 := hLT.2.1 m hlt
  have hcl := hLT.2.2.2.2.1 m hlt
  have hnone : tau (s m) = none := hLT.2.2.2.1 (s m) (by omega) (fun i hi z => by have := hLT.2.2.1 i m (by omega) hlt z; omega)
  have ea : dk_a (s m) = (14, s m) := if_neg (by omega)
  have hrd := cr_readClause (L := L) (xs := xs) (S := T) (n := tx.length) (a := (14, s m)) (x := s m) d hST (.inl ⟨rfl, hsm⟩) (hLT.2.2.2.2.2.2.1 (s m) hsm) (m := tx.length) rfl ⟨by omega, by omega⟩ hchT hnzT
  rw [hhT] at hrd
  have er : ∀ x, x ≠ 12 → dk_r x tx = pt_c (dk_f tx) := fun x hx => if_neg hx
  rw [← er 0 (by decide)] at hrd
  refine ty_aload_n (pc := 27) (i := 0) (ks := []) (by decide +kernel) rfl ?_
  refine ty_getS (b := (16, 0)) (pc := 28) (idx := 51) (ci := 0) (f := 7) (by decide +kernel) (by first | rfl | assumption) rfl (by first | exact hS.1 _ _ rfl | assumption) (by first | exact hS.2.2 _ _ _ _ rfl | assumption) ?_
  refine ty_aload_n (pc := 31) (i := 0) (ks := []) (by decide +kernel) rfl ?_
  refine ty_getS (b := (10, 0)) (pc := 32) (idx := 9) (ci := 0) (f := 0) (by decide +kernel) (by first | rfl | assumption) rfl (by first | exact hS.1 _ _ rfl | assumption) (by first | exact hS.2.2 _ _ _ _ rfl | assumption) ?_
  refine ty_iload_n (pc := 35) (i := 1) (ks := []) (by decide +kernel) rfl ?_
  refine ty_aload_n (pc := 36) (i := 0) (ks := []) (by decide +kernel) rfl ?_
  refine ty_getS (b := (11, 0)) (pc := 37) (idx := 22) (ci := 0) (f := 3) (by decide +kernel) (by first | rfl | assumption) rfl (by first | exact hS.1 _ _ rfl | assumption) (by first | exact hS.2.2 _ _ _ _ rfl | assumption) ?_
  refine ty_aload_n (pc := 40) (i := 0) (ks := []) (by decide +kernel) rfl ?_
  refine ty_getI (pc := 41) (idx := 26) (ci := 0) (f := 4) (by decide +kernel) (by first | rfl | assumption) rfl (by first | exact hS.1 _ _ rfl | assumption) (fun v hv => ?_)
  subst hv
  -- at 44: .aaload
  rw [hcc]
  refine ty_aaload (pc := 44) (ks := []) (by decide +kernel) (by rfl) (by rfl) (hS.1 _ _ rfl) (hS.2.1 _ _ _ rfl) (by omega) (fun v hv => ?_)
  rw [hcl] at hv
  subst hv
  refine ty_callv (pc := 45) (idx := 77) (m := 19) (n := 4) (c := 4) (vs := [_, _, _]) (r := []) (by decide +kernel) rfl rfl (Nat.le_of_ble_eq_true rfl) (by first | rfl | assumption) (by first | exact hS.1 _ _ rfl | assumption) hrd ?_
  rintro _ S2 ⟨z, rfl, hz, hF, hat, hGd⟩
  refine ty_KI ?_
  rw [← ea] at hF hGd
  obtain ⟨eTx, eD⟩ := dk_X_cr hF
  have hS2 := hF.1
  have hU2 := dk_U_cr hUT hF hnone
  have hL2 := dk_L_cr hLT hF
  have hN2 := hF.N
  have hk2 : ∀ n1 c1 n2 c2 n, cs_k T K n1 c1 n2 c2 n th → cs_k S2 K n1 c1 n2 c2 n th := fun _ _ _ _ _ h => by unfold cs_k at h ⊢; rw [hF.2.1]; exact h
  have hI2 := cs_I_N (dk_A_I hAT) hN2 hk2
  have hW2 := hWT.trans hF.W
  have hX2 : dk_X S2 [] := ⟨by rw [eD]; exact hXe.1, Nat.zero_le _, fun c hc => (nomatch hc), trivial, by rw [eTx]; exact hXe.2.2.2.2⟩
  have hS := hS2
  cases hok : (dk_r 0 tx).1 with
  | false =>
    rw [hok, if_neg (by decide)] at hz
    subst hz
    have hspec := pt_c_spec (h := dk_f tx) (n := tx.length) (fun p hp => dk_f_n hp) (by omega)
    rw [← er 0 (by decide)] at hspec
    refine ty_if_ne (pc := 48) (off := 22) (t := 70) (ks := []) (by decide +kernel) (by omega) (fun hc => ?_) (fun hc => ?_)
    · exact absurd rfl hc
    · refine ty_aload_n (pc := 51) (i := 0) (ks := []) (by decide +kernel) rfl ?_
      refine ty_aload_n (pc := 52) (i := 0) (ks := []) (by decide +kernel) rfl ?_
      refine ty_getS (b := (16, 0)) (pc := 53) (idx := 51) (ci := 0) (f := 7) (by decide +kernel) (by first | rfl | assumption) rfl (by first | exact hS.1 _ _ rfl | assumption) (by first | exact hS.2.2 _ _ _ _ rfl | assumption) ?_
      refine ty_getI (pc := 56) (idx := 81) (ci := 4) (f := 3) (by decide +kernel) (by first | rfl | assumption) rfl (by first | exact hS.1 _ _ rfl | assumption) (fun v hv => ?_)
      subst hv
      refine ty_putI (pc := 59) (idx := 17) (ci := 0) (f := 2) (by decide +kernel) (by first | rfl | assumption) rfl rfl (by first | exact hS.1 _ _ rfl | assumption) ?_
      -- at 62: .new 71
      rw [hat]
      refine ty_throw (pc := 62) (ins := .new 71) (x := 0) (by decide +kernel) (Nat.le_of_ble_eq_true rfl) ?_
      have nI3 : ∀ b j, ¬ (b = (93, 0) ∧ j = 2) → (ty_sI S2 (93, 0) 2 (dk_r 0 tx).2.1).1 b j = S2.1 b j := fun b j hb => if_neg hb
      have hN3 : cs_N S2 (ty_sI S2 (93, 0) 2 (dk_r 0 tx).2.1) := dk_N_own hS2 rfl (fun b j hb => nI3 b j (fun w => hb w.1))
      have hU3 : dk_U (ty_sI S2 (93, 0) 2 (dk_r 0 tx).2.1) tau := dk_U_keep hU2 (fun b hb j => nI3 b j (fun w => by rw [w.1] at hb; exact absurd hb (by decide))) (fun _ _ => rfl)
      have hL3 : dk_L (ty_sI S2 (93, 0) 2 (dk_r 0 tx).2.1) tau s m := by
        obtain ⟨l1, l2, l3, l4, l5, l6, l7, l8⟩ := hL2
        exact ⟨l1, l2, l3, l4, l5, by rw [nI3 _ _ (by decide)]; exact l6, fun x hx => by rw [nI3 _ _ (by simp)]; exact l7 x hx, by rw [nI3 _ _ (by decide)]; exact l8⟩
      refine ⟨(hW2.trans (dk_W_of (S' := ty_sI S2 (93, 0) 2 (dk_r 0 tx).2.1) rfl (fun b j _ h2 => nI3 b j (fun w => h2 (by rw [w.1]))) (fun _ _ _ _ => rfl))).trans dk_W_th, th + 1, Nat.le_refl _, .inr (.inl ⟨hlt, rfl, rfl, dk_R_th ⟨hS2, hU3, hL3, ⟨by rw [nI3 _ _ (by decide)]; exact hX2.1, hX2.2⟩, ⟨ty_sI_at, by omega, by omega⟩, ?_, ?_⟩⟩)⟩
      · rw [nI3 _ _ (by decide), eD]
        exact haskT
      · cases as with
        | none => exact ⟨hAT.1, cs_I_N hI2 hN3 (fun _ _ _ _ _ h => h)⟩
        | some M => exact ⟨hAT.1, cs_Y_N (cs_Y_N hAT.2.1 hN2 (dk_Pd hU2 hL2) rfl hk2) hN3 (dk_Pd hU3 hL3) rfl (fun _ _ _ _ _ h => h), dk_MI_E hUT hU3 hLT.1 hAT.2.2⟩
  | true =>
    rw [hok, if_pos rfl] at hz
    subst hz
    have hG2 := hGd hok
    have hokd : dk_ok (s m) tx := ⟨by omega, x2, hX.2.2.1, by rw [er _ (by omega), ← er 0 (by decide)]; exact hok⟩
    have hG3 : cr_G S2 (dk_f tx) tx.length tx.length (dk_a (s m)) (s m) (dk_r (s m) tx).2.2.1 (dk_r (s m) tx).2.2.2 := by
      rw [er (s m) (by omega), ← er 0 (by decide)]
      exact hG2
    have hU3 : dk_U S2 (dk_tp (dk_tq tau) (s m) tx) := dk_U_tp (dk_U_tq hU2) hokd hG3
    refine ty_if_ne (pc := 48) (off := 22) (t := 70) (ks := []) (by decide +kernel) (by omega) (fun hc => ?_) (fun hc => ?_)
    rotate_left
    · exact absurd hc (by decide)
    clear hc
    have hcc2 : S2.1 (93, 0) 4 = m := by rw [eD]; exact hcc
    refine ty_aload_n (pc := 70) (i := 0) (ks := []) (by decide +kernel) rfl ?_
    refine ty_dup (pc := 71) (ks := []) (by decide +kernel) rfl ?_
    refine ty_getI (pc := 72) (idx := 26) (ci := 0) (f := 4) (by decide +kernel) (by first | rfl | assumption) rfl (by first | exact hS.1 _ _ rfl | assumption) (fun v hv => ?_)
    subst hv
    refine ty_iconst (pc := 75) (n := 1) (ks := []) (by decide +kernel) ?_
    refine ty_iadd (pc := 76) (ks := []) (by decide +kernel) ?_
    refine ty_putI (pc := 77) (idx := 26) (ci := 0) (f := 4) (by decide +kernel) (by first | rfl | assumption) rfl rfl (by first | exact hS.1 _ _ rfl | assumption) ?_
    refine ty_aload_n (pc := 80) (i := 0) (ks := []) (by decide +kernel) rfl ?_
    refine ty_iconst (pc := 81) (n := 0) (ks := []) (by decide +kernel) ?_
    refine ty_putZ (pc := 82) (idx := 29) (ci := 0) (f := 6) (by decide +kernel) (by first | rfl | assumption) rfl rfl (by first | exact hS.1 _ _ rfl | assumption) (by omega) ?_
    -- at 85: .aload_n 0
    rw [hcc2]
    generalize hT4 : ty_sI (ty_sI S2 (93, 0) 4 ((m : Int) + 1)) (93, 0) 6 0 = S4
    have nI4 : ∀ b j, ¬ (b = (93, 0) ∧ (j = 4 ∨ j = 6)) → S4.1 b j = S2.1 b j := fun b j hb => by
      rw [← hT4]
      exact (ty_sI_ne (fun w => hb ⟨w.1, .inr w.2⟩)).trans (ty_sI_ne (fun w => hb ⟨w.1, .inl w.2⟩))
    have e4 : S4.2 = S2.2 := by rw [← hT4]; rfl
    have i4 : S4.1 (93, 0) 4 = (m : Int) + 1 ∧ S4.1 (93, 0) 6 = 0 := by
      rw [← hT4]
      exact ⟨(ty_sI_ne (by decide)).trans ty_sI_at, ty_sI_at⟩
    have hS4 : ty_st S4 := by rw [← hT4]; exact hS2
    clear hT4
    have hS := hS4
    refine ty_aload_n (pc := 85) (i := 0) (ks := []) (by decide +kernel) rfl ?_
    refine ty_getI (pc := 86) (idx := 26) (ci := 0) (f := 4) (by decide +kernel) (by first | rfl | assumption) rfl (by first | exact hS.1 _ _ rfl | assumption) (fun v hv => ?_)
    subst hv
    -- at 89: .ireturn
    rw [i4.1]
    refine ty_ret_i (pc := 89) (ks := []) (ty := .int) (by decide +kernel) rfl rfl ?_
    have hN4 : cs_N S2 S4 := dk_N_own hS4 e4 (fun b j hb => nI4 b j (fun w => hb w.1))
    have h14 : ∀ b : ai_A, b.1 = 14 ∨ b.1 = 15 → ∀ j, S4.1 b j = S2.1 b j := fun b hb j => nI4 b j (fun w => by rw [w.1] at hb; exact absurd hb (by decide))
    refine ⟨hW2.trans (dk_W_of (by rw [e4]) (fun b j _ h2 => nI4 b j (fun w => h2 (by rw [w.1]))) (fun _ _ _ _ => by rw [e4])), th, Nat.le_succ _, .inr (.inr ⟨hlt, rfl, rfl, hS4, dk_U_keep hU3 h14 (fun _ _ => by rw [e4]), ?_, ⟨by rw [nI4 _ _ (by decide)]; exact hX2.1, Nat.zero_le _, fun c hc => (nomatch hc), trivial, by rw [e4]; exact hX2.2.2.2.2⟩, ⟨by rw [nI4 _ _ (by decide), eD]; exact hplT.1, hplT.2⟩, i4.2, ?_⟩)⟩
    · obtain ⟨l1, l2, l3, l4, l5, l6, l7, l8⟩ := hL2
      refine ⟨⟨by omega, fun i hi => ?_⟩, l2, l3, fun x hx hi => ?_, by rw [e4]; exact l5, by rw [i4.1]; omega, fun x hx => by rw [h14 _ (.inl rfl)]; exact l7 x hx, by rw [h14 _ (.inr rfl)]; exact l8⟩
      · by_cases e : i = m
        · rw [e]
          exact ⟨hsm, tx, if_pos rfl⟩
        · obtain ⟨b1, t, b2⟩ := l1.2 i (by omega)
          refine ⟨b1, t, ?_⟩
          unfold dk_tp dk_tq
          rw [if_neg (fun z => by have := l3 i m (by omega) hlt z; omega), if_neg (by omega)]
          exact b2
      · unfold dk_tp dk_tq
        rw [if_neg (fun z => hi m (by omega) z.symm), if_neg hx]
        exact l4 x hx (fun i h9 => hi i (by omega))
    · refine ⟨?_, cs_I_N hI2 hN4 (fun _ _ _ _ _ h => by unfold cs_k at h ⊢; rw [e4]; exact h)⟩
      unfold dk_tp
      rw [if_neg (by omega)]
      exact dk_tq_12
/-- the slots once clause i is gone -/
def dk_rot (s : Nat → Nat) (i m : Nat) : Nat → Nat := fun k => if k < i then s k else if k < m - 1 then s (k + 1) else if k = m - 1 then s i else s k
/-- while it is moved: those up to k moved already -/
def dk_mv (s : Nat → Nat) (i k : Nat) : Nat → Nat := fun j => if i ≤ j ∧ j < k then s (j + 1) else s j
def dk_to (tau : dk_T) (x : Nat) : dk_T := fun y => if y = x then none else tau y
theorem dk_drop (d : Nat) (hR : dk_R S K th tau s tx pl m as) {i : Int} (hi : -2147483648 ≤ i ∧ i ≤ 2147483647) : ty_C L xs (d + 1) 34 [.inr (.inr (some (93, 0))), .inl (ty_J i)] S (fun o S' => dk_W S S' ∧ (((i < 0 ∨ (m : Int) ≤ i) ∧ o = dk_o (.inl 0) ∧ S' = ty_th S) ∨ (0 ≤ i ∧ i < (m : Int) ∧ o = .inl none ∧ dk_R S' K th (dk_to (dk_tq tau) (s i.toNat)) (dk_rot s i.toNat m) tx pl (m - 1) none))) := by
  obtain ⟨hS, hU, hL, hX, hpl, hask, hA⟩ := hR
  obtain ⟨l1, l2, l3, l4, l5, l6, l7, l8⟩ := hL
  have hm12 := l1.1
  have hmr : 0 ≤ S.1 (93, 0) 4 ∧ S.1 (93, 0) 4 ≤ 12 := by rw [l6]; omega
  refine ty_enter (ml := 4) (ls := [_, _, _, _]) rfl rfl (Nat.le_of_ble_eq_true rfl) ?_
  refine ty_iload_n (pc := 0) (i := 1) (ks := []) (by decide +kernel) rfl ?_
  -- at 1: .ifCond .lt 11
  refine ty_if_lt (pc := 1) (off := 11) (t := 12) (ks := []) (by decide +kernel) (by omega) (fun hc => ?_) (fun hc => ?_)
  · refine ty_throw (pc := 12) (ins := .new 71) (x := 0) (by decide +kernel) (Nat.le_of_ble_eq_true rfl) ?_
    exact ⟨dk_W_th, .inl ⟨.inl hc, rfl, rfl⟩⟩
  have hi0 := hc
  refine ty_iload_n (pc := 4) (i := 1) (ks := []) (by decide +kernel) rfl ?_
  refine ty_aload_n (pc := 5) (i := 0) (ks := []) (by decide +kernel) rfl ?_
  refine ty_getI (pc := 6) (idx := 26) (ci := 0) (f := 4) (by decide +kernel) (by first | rfl | assumption) rfl (by first | exact hS.1 _ _ rfl | assumption) (fun v hv => ?_)
  subst hv
  -- at 9: .if_icmp .lt 11
  refine ty_icmp_lt (pc := 9) (off := 11) (t := 20) (ks := []) (by decide +kernel) (by omega) (by omega) (fun hc => ?_) (fun hc => ?_)
  rotate_left
  · refine ty_throw (pc := 12) (ins := .new 71) (x := 0) (by decide +kernel) (Nat.le_of_ble_eq_true rfl) ?_
    exact ⟨dk_W_th, .inl ⟨.inr (by omega), rfl, rfl⟩⟩
  have him : i < (m : Int) := by omega
  clear hc
  obtain ⟨k0, rfl⟩ : ∃ k : Nat, i = k := ⟨i.toNat, by omega⟩
  have hk12 : k0 < 12 := by omega
  refine ty_aload_n (pc := 20) (i := 0) (ks := []) (by decide +kernel) rfl ?_
  refine ty_getS (b := (11, 0)) (pc := 21) (idx := 22) (ci := 0) (f := 3) (by decide +kernel) (by first | rfl | assumption) rfl (by first | exact hS.1 _ _ rfl | assumption) (by first | exact hS.2.2 _ _ _ _ rfl | assumption) ?_
  refine ty_iload_n (pc := 24) (i := 1) (ks := []) (by decide +kernel) rfl ?_
  -- at 25: .aaload
  refine ty_aaload (pc := 25) (ks := []) (by decide +kernel) (by rfl) (by rfl) (hS.1 _ _ rfl) (hS.2.1 _ _ _ rfl) (by omega) (fun v hv => ?_)
  rw [l5 k0 hk12] at hv
  subst hv
  refine ty_astore_n (pc := 26) (i := 2) (ks := []) (ls' := [_, _, _, _]) (by decide +kernel) rfl ?_
  refine ty_aload_n (pc := 27) (i := 0) (ks := []) (by decide +kernel) rfl ?_
  refine ty_dup (pc := 28) (ks := []) (by decide +kernel) rfl ?_
  refine ty_getI (pc := 29) (idx := 26) (ci := 0) (f := 4) (by decide +kernel) (by first | rfl | assumption) rfl (by first | exact hS.1 _ _ rfl | assumption) (fun v hv => ?_)
  subst hv
  refine ty_iconst (pc := 32) (n := 1) (ks := []) (by decide +kernel) ?_
  refine ty_isub (pc := 33) (ks := []) (by decide +kernel) ?_
  refine ty_putI (pc := 34) (idx := 26) (ci := 0) (f := 4) (by decide +kernel) (by first | rfl | assumption) rfl rfl (by first | exact hS.1 _ _ rfl | assumption) ?_
  -- at 37: .iload_n 1
  rw [l6]
  generalize hT : ty_sI S (93, 0) 4 ((m : Int) - 1) = T
  have nI : ∀ b j, ¬ (b = (93, 0) ∧ j = 4) → T.1 b j = S.1 b j := fun b j hb => by
    rw [← hT]
    exact ty_sI_ne hb
  have e2 : T.2 = S.2 := by rw [← hT]; rfl
  have iC : T.1 (93, 0) 4 = (m : Int) - 1 := by rw [← hT]; exact ty_sI_at
  have hST : ty_st T := by rw [← hT]; exact hS
  clear hT
  have sQ : ∀ (f : Int → Option ai_A) (j : Int) (b : Option ai_A), ty_sQ (ty_mQ T (11, 0) f) (11, 0) j b = ty_mQ T (11, 0) (fun q => if q = j then b else f q) := fun f j b => by
    refine Prod.ext rfl (Prod.ext rfl (Prod.ext rfl (Prod.ext ?_ rfl)))
    funext c q
    show (if c = (11, 0) ∧ q = j then b else (if c = (11, 0) then f else T.2.2.2.1 c) q) = (if c = (11, 0) then (fun q => if q = j then b else f q) else T.2.2.2.1 c) q
    by_cases e : c = (11, 0)
    · subst e
      by_cases e2 : q = j
      · simp [e2]
      · simp [e2]
    · rw [if_neg (fun w => e w.1), if_neg e, if_neg e]
  have p14 : ∀ (f : Int → Option ai_A) (x : Nat), x < 12 → ((14, x) : ai_A).2 < (ty_mQ T (11, 0) f).2.2.2.2.2.2.1 ((14, x) : ai_A).1 := fun f x hx => by
    have h11 : 11 < T.2.2.2.2.2.2.1 14 := hST.1 14 11 (by decide +kernel)
    show x < T.2.2.2.2.2.2.1 14
    omega
  have s14 : ∀ x : Nat, ty_sk ((14, x) : ai_A).1 = (1, 3) := fun x => by show ty_sk 14 = (1, 3); decide +kernel
  have ek : ((k0 : Int)).toNat = k0 := by omega
  rw [ek]
  -- the end, once all are moved
  have fin : ∀ (f : Int → Option ai_A), (∀ j : Nat, j < 12 → f j = some (14, dk_mv s k0 (m - 1) j)) → ty_W L xs d 34 67 [some (.inr (.inr (some (93, 0)))), some (.inl (ty_J k0)), some (.inr (.inr (some (14, s k0)))), some (.inl (ty_J ((m : Int) - 1)))] [] (ty_mQ T (11, 0) f) (fun o S' => dk_W S S' ∧ ((((k0 : Int) < 0 ∨ (m : Int) ≤ k0) ∧ o = dk_o (.inl 0) ∧ S' = ty_th S) ∨ (0 ≤ (k0 : Int) ∧ (k0 : Int) < (m : Int) ∧ o = .inl none ∧ dk_R S' K th (dk_to (dk_tq tau) (s k0)) (dk_rot s k0 m) tx pl (m - 1) none))) := by
    intro f hf
    have hS : ty_st (ty_mQ T (11, 0) f) := hST
    have iC2 : (ty_mQ T (11, 0) f).1 (93, 0) 4 = (m : Int) - 1 := iC
    have hp14 := p14 f (s k0) (l2 k0 hk12)
    have hs14 := s14 (s k0)
    refine ty_aload_n (pc := 67) (i := 0) (ks := []) (by decide +kernel) rfl ?_
    refine ty_getS (b := (11, 0)) (pc := 68) (idx := 22) (ci := 0) (f := 3) (by decide +kernel) (by first | rfl | assumption) rfl (by first | exact hS.1 _ _ rfl | assumption) (by first | exact hS.2.2 _ _ _ _ rfl | assumption) ?_
    refine ty_aload_n (pc := 71) (i := 0) (ks := []) (by decide +kernel) rfl ?_
    refine ty_getI (pc := 72) (idx := 26) (ci := 0) (f := 4) (by decide +kernel) (by first | rfl | assumption) rfl (by first | exact hS.1 _ _ rfl | assumption) (fun v hv => ?_)
    subst hv
    refine ty_aload_n (pc := 75) (i := 2) (ks := []) (by decide +kernel) rfl ?_
    -- at 76: .aastore
    rw [iC2]
    refine ty_aastore (pc := 76) (ks := []) (cj := 3) (by decide +kernel) (by rfl) (hS.1 _ _ rfl) (hS.2.1 _ _ _ rfl) (by omega) hs14 hp14 (by decide +kernel) ?_
    rw [sQ]
    have hf' : ∀ j : Nat, j < 12 → (fun q : Int => if q = (m : Int) - 1 then some ((14, s k0) : ai_A) else f q) j = some (14, dk_rot s k0 m j) := fun j hj => by
      show (if (j : Int) = (m : Int) - 1 then some ((14, s k0) : ai_A) else f j) = some (14, dk_rot s k0 m j)
      unfold dk_rot
      by_cases e1 : (j : Int) = (m : Int) - 1
      · rw [if_pos e1, if_neg (by omega), if_neg (by omega), if_pos (by omega)]
      · rw [if_neg e1, hf j hj]
        unfold dk_mv
        by_cases e2 : j < k0
        · rw [if_pos e2, if_neg (by omega)]
        · by_cases e3 : j < m - 1
          · rw [if_neg e2, if_pos e3, if_pos (by omega)]
          · rw [if_neg e2, if_neg e3, if_neg (by omega), if_neg (by omega)]
    generalize (fun q : Int => if q = (m : Int) - 1 then some ((14, s k0) : ai_A) else f q) = f1 at hf'
    have hS : ty_st (ty_mQ T (11, 0) f1) := hST
    refine ty_aload_n (pc := 77) (i := 0) (ks := []) (by decide +kernel) rfl ?_
    refine ty_iconst (pc := 78) (n := 0) (ks := []) (by decide +kernel) ?_
    refine ty_putZ (pc := 79) (idx := 29) (ci := 0) (f := 6) (by decide +kernel) (by first | rfl | assumption) rfl rfl (by first | exact hS.1 _ _ rfl | assumption) (by omega) ?_
    -- at 82: .return_
    refine ty_ret_v (pc := 82) (ks := []) (by decide +kernel) rfl ?_
    generalize hT4 : ty_sI (ty_mQ T (11, 0) f1) (93, 0) 6 0 = S4
    have nI4 : ∀ b j, ¬ (b = (93, 0) ∧ (j = 4 ∨ j = 6)) → S4.1 b j = S.1 b j := fun b j hb => by
      rw [← hT4]
      exact (ty_sI_ne (fun w => hb ⟨w.1, .inr w.2⟩)).trans (nI b j (fun w => hb ⟨w.1, .inl w.2⟩))
    have c4 : S4.1 (93, 0) 4 = (m : Int) - 1 ∧ S4.1 (93, 0) 6 = 0 := by
      rw [← hT4]
      exact ⟨(ty_sI_ne (by decide)).trans iC, ty_sI_at⟩
    have q4 : S4.2.2.2.1 (11, 0) = f1 ∧ ∀ b, b ≠ (11, 0) → S4.2.2.2.1 b = S.2.2.2.1 b := by
      rw [← hT4]
      refine ⟨?_, fun b hb => ?_⟩
      · show (if (11, 0) = (11, 0) then f1 else T.2.2.2.1 (11, 0)) = f1
        simp
      · show (if b = (11, 0) then f1 else T.2.2.2.1 b) = S.2.2.2.1 b
        rw [if_neg hb, e2]
    have r4 : S4.2.1 = S.2.1 ∧ S4.2.2.1 = S.2.2.1 ∧ S4.2.2.2.2 = S.2.2.2.2 := by
      rw [← hT4, ← e2]
      exact ⟨rfl, rfl, rfl⟩
    have hS4 : ty_st S4 := by rw [← hT4]; exact hST
    clear hT4
    have h14 : ∀ b : ai_A, b.1 = 14 ∨ b.1 = 15 → ∀ j, S4.1 b j = S.1 b j := fun b hb j => nI4 b j (fun w => by rw [w.1] at hb; exact absurd hb (by decide))
    have hN4 : cs_N S S4 := ⟨hS4, fun b hb j => ⟨nI4 b j (fun w => by rw [w.1] at hb; exact absurd hb (by decide)), by rw [r4.1]⟩, fun b hb => ⟨by rw [r4.2.1], q4.2 b (fun w => by rw [w] at hb; exact absurd hb (by decide)), by rw [r4.2.2]⟩, fun _ => by rw [r4.2.2]; exact Nat.le_refl _, by rw [r4.2.2], by rw [r4.2.2]⟩
    have hU4 : dk_U S4 tau := dk_U_keep hU h14 (fun b _ => by rw [r4.2.1])
    have hpi : ∀ j, j < 12 → ∃ q, q < 12 ∧ dk_rot s k0 m j = s q ∧ q = (if j < k0 then j else if j < m - 1 then j + 1 else if j = m - 1 then k0 else j) := fun j hj => by
      refine ⟨_, ?_, ?_, rfl⟩
      · split
        · omega
        · split
          · omega
          · split <;> omega
      · unfold dk_rot
        split
        · rfl
        · split
          · rfl
          · split <;> rfl
    have nx : ∀ y, y ≠ 12 → y ≠ s k0 → dk_to (dk_tq tau) (s k0) y = tau y := fun y h1 h2 => by
      unfold dk_to dk_tq
      rw [if_neg h2, if_neg h1]
    refine ⟨⟨fun b hb h93 => ⟨fun j => ⟨nI4 b j (fun w => h93 (by rw [w.1])), by rw [r4.1]⟩, by rw [r4.2.1], q4.2 b (fun w => by rw [w] at hb; simp only at hb; omega), by rw [r4.2.2]⟩, by rw [r4.2.2], fun s _ => by rw [r4.2.2]⟩, .inr ⟨by omega, him, rfl, hS4, ?_, ?_, ?_, ⟨by rw [nI4 _ _ (by decide)]; exact hpl.1, hpl.2⟩, c4.2, ?_, ?_⟩⟩
    · intro y t ht
      unfold dk_to at ht
      by_cases e : y = s k0
      · rw [if_pos e] at ht; cases ht
      · rw [if_neg e] at ht
        exact dk_U_tq hU4 y t ht
    · refine ⟨⟨by omega, fun j hj => ?_⟩, fun j hj => ?_, fun j q hj hq hjq => ?_, fun x hx hxi => ?_, fun j hj => by rw [q4.1]; exact hf' j hj, by rw [c4.1]; omega, fun x hx => by rw [h14 _ (.inl rfl)]; exact l7 x hx, by rw [h14 _ (.inr rfl)]; exact l8⟩
      · obtain ⟨q, q1, q2, q3⟩ := hpi j (by omega)
        have hqm : q < m ∧ q ≠ k0 := by
          rw [q3]
          split
          · omega
          · omega
        obtain ⟨b1, t, b2⟩ := l1.2 q hqm.1
        rw [q2]
        refine ⟨b1, t, ?_⟩
        rw [nx _ (by omega) (fun z => hqm.2 (l3 q k0 q1 hk12 z))]
        exact b2
      · obtain ⟨q, q1, q2, -⟩ := hpi j hj
        rw [q2]
        exact l2 q q1
      · obtain ⟨a, a1, a2, a3⟩ := hpi j hj
        obtain ⟨b, b1, b2, b3⟩ := hpi q hq
        rw [a2, b2] at hjq
        have hab := l3 a b a1 b1 hjq
        rw [a3, b3] at hab
        split at hab
        · split at hab
          · exact hab
          · split at hab
            · omega
            · split at hab <;> omega
        · split at hab
          · split at hab
            · omega
            · split at hab
              · omega
              · split at hab <;> omega
          · split at hab
            · split at hab
              · omega
              · split at hab
                · omega
                · split at hab <;> omega
            · split at hab
              · omega
              · split at hab
                · omega
                · split at hab <;> omega
      · by_cases e : x = s k0
        · unfold dk_to
          rw [if_pos e]
        · rw [nx x hx e]
          refine l4 x hx (fun j hj z => ?_)
          by_cases e1 : j = k0
          · rw [e1] at z
            exact e z.symm
          · by_cases e2 : j < k0
            · refine hxi j (by omega) ?_
              unfold dk_rot
              rw [if_pos e2]
              exact z
            · refine hxi (j - 1) (by omega) ?_
              unfold dk_rot
              rw [if_neg (by omega), if_pos (by omega), show j - 1 + 1 = j by omega]
              exact z
    · obtain ⟨x1, x2, x3, x4, x5⟩ := hX
      exact ⟨by rw [nI4 _ _ (by decide)]; exact x1, x2, x3, by rw [r4.2.1]; exact x4, by rw [r4.2.1]; exact x5⟩
    · unfold dk_to
      rw [if_neg (by have := l2 k0 hk12; omega)]
      exact dk_tq_12
    · exact cs_I_N (dk_A_I hA) hN4 (fun _ _ _ _ _ h => by unfold cs_k at h ⊢; rw [r4.2.2]; exact h)
  have loop : ∀ (r k : Nat) (f : Int → Option ai_A), k + r = m - 1 → k0 ≤ k → (∀ j : Nat, j < 12 → f j = some (14, dk_mv s k0 k j)) → ty_W L xs d 34 39 [some (.inr (.inr (some (93, 0)))), some (.inl (ty_J k0)), some (.inr (.inr (some (14, s k0)))), some (.inl (ty_J k))] [] (ty_mQ T (11, 0) f) (fun o S' => dk_W S S' ∧ ((((k0 : Int) < 0 ∨ (m : Int) ≤ k0) ∧ o = dk_o (.inl 0) ∧ S' = ty_th S) ∨ (0 ≤ (k0 : Int) ∧ (k0 : Int) < (m : Int) ∧ o = .inl none ∧ dk_R S' K th (dk_to (dk_tq tau) (s k0)) (dk_rot s k0 m) tx pl (m - 1) none))) := by
    intro r
    induction r with
    | zero =>
      intro k f hk hk0 hf
      have hS : ty_st (ty_mQ T (11, 0) f) := hST
      have iC2 : (ty_mQ T (11, 0) f).1 (93, 0) 4 = (m : Int) - 1 := iC
      refine ty_iload_n (pc := 39) (i := 3) (ks := []) (by decide +kernel) rfl ?_
      refine ty_aload_n (pc := 40) (i := 0) (ks := []) (by decide +kernel) rfl ?_
      refine ty_getI (pc := 41) (idx := 26) (ci := 0) (f := 4) (by decide +kernel) (by first | rfl | assumption) rfl (by first | exact hS.1 _ _ rfl | assumption) (fun v hv => ?_)
      subst hv
      -- at 44: .if_icmp .ge 23
      rw [iC2]
      refine ty_icmp_ge (pc := 44) (off := 23) (t := 67) (ks := []) (by decide +kernel) (by omega) (by omega) (fun hc => ?_) (fun hc => ?_)
      · have e : k = m - 1 := by omega
        rw [e] at hf
        have := fin f hf
        rw [show (m : Int) - 1 = (k : Int) by omega] at this
        exact this
      · omega
    | succ r ih =>
      intro k f hk hk0 hf
      have hS : ty_st (ty_mQ T (11, 0) f) := hST
      have iC2 : (ty_mQ T (11, 0) f).1 (93, 0) 4 = (m : Int) - 1 := iC
      have hfk : (ty_mQ T (11, 0) f).2.2.2.1 (11, 0) ((k : Int) + 1) = some (14, s (k + 1)) := by
        show (if (11, 0) = (11, 0) then f else T.2.2.2.1 (11, 0)) ((k : Int) + 1) = _
        rw [if_pos rfl]
        have := hf (k + 1) (by omega)
        rw [show ((k + 1 : Nat) : Int) = (k : Int) + 1 by omega] at this
        rw [this]
        unfold dk_mv
        rw [if_neg (by omega)]
      refine ty_iload_n (pc := 39) (i := 3) (ks := []) (by decide +kernel) rfl ?_
      refine ty_aload_n (pc := 40) (i := 0) (ks := []) (by decide +kernel) rfl ?_
      refine ty_getI (pc := 41) (idx := 26) (ci := 0) (f := 4) (by decide +kernel) (by first | rfl | assumption) rfl (by first | exact hS.1 _ _ rfl | assumption) (fun v hv => ?_)
      subst hv
      -- at 44: .if_icmp .ge 23
      rw [iC2]
      refine ty_icmp_ge (pc := 44) (off := 23) (t := 67) (ks := []) (by decide +kernel) (by omega) (by omega) (fun hc => ?_) (fun hc => ?_)
      · omega
      clear hc
      refine ty_aload_n (pc := 47) (i := 0) (ks := []) (by decide +kernel) rfl ?_
      refine ty_getS (b := (11, 0)) (pc := 48) (idx := 22) (ci := 0) (f := 3) (by decide +kernel) (by first | rfl | assumption) rfl (by first | exact hS.1 _ _ rfl | assumption) (by first | exact hS.2.2 _ _ _ _ rfl | assumption) ?_
      refine ty_iload_n (pc := 51) (i := 3) (ks := []) (by decide +kernel) rfl ?_
      refine ty_aload_n (pc := 52) (i := 0) (ks := []) (by decide +kernel) rfl ?_
      refine ty_getS (b := (11, 0)) (pc := 53) (idx := 22) (ci := 0) (f := 3) (by decide +kernel) (by first | rfl | assumption) rfl (by first | exact hS.1 _ _ rfl | assumption) (by first | exact hS.2.2 _ _ _ _ rfl | assumption) ?_
      refine ty_iload_n (pc := 56) (i := 3) (ks := []) (by decide +kernel) rfl ?_
      refine ty_iconst (pc := 57) (n := 1) (ks := []) (by decide +kernel) ?_
      refine ty_iadd (pc := 58) (ks := []) (by decide +kernel) ?_
      -- at 59: .aaload
      refine ty_aaload (pc := 59) (ks := []) (by decide +kernel) (by rfl) (by rfl) (hS.1 _ _ rfl) (hS.2.1 _ _ _ rfl) (by omega) (fun v hv => ?_)
      rw [hfk] at hv
      subst hv
      refine ty_aastore (pc := 60) (ks := []) (cj := 3) (by decide +kernel) (by rfl) (hS.1 _ _ rfl) (hS.2.1 _ _ _ rfl) (by omega) (s14 (s (k + 1))) (p14 f (s (k + 1)) (l2 (k + 1) (by omega))) (by decide +kernel) ?_
      rw [sQ]
      refine ty_iinc (pc := 61) (i := 3) (n := 1) (ks := []) (ls' := [_, _, _, _]) (by decide +kernel) rfl rfl ?_
      refine ty_goto (pc := 64) (off := (-25)) (t := 39) (ks := []) (by decide +kernel) ?_
      -- at 39: .iload_n 3
      have := ih (k + 1) (fun q => if q = (k : Int) then some (14, s (k + 1)) else f q) (by omega) (by omega) (fun j hj => by
        show (if (j : Int) = (k : Int) then some ((14, s (k + 1)) : ai_A) else f j) = _
        by_cases e : j = k
        · subst e
          rw [if_pos rfl]
          unfold dk_mv
          rw [if_pos (by omega)]
        · rw [if_neg (by omega), hf j hj]
          unfold dk_mv
          by_cases e2 : k0 ≤ j ∧ j < k
          · rw [if_pos e2, if_pos (by omega)]
          · rw [if_neg e2, if_neg (by omega)])
      rw [show ((k + 1 : Nat) : Int) = (k : Int) + 1 by omega] at this
      exact this
  have eT : T = ty_mQ T (11, 0) (T.2.2.2.1 (11, 0)) := by
    refine Prod.ext rfl (Prod.ext rfl (Prod.ext rfl (Prod.ext ?_ rfl)))
    funext b
    show T.2.2.2.1 b = if b = (11, 0) then T.2.2.2.1 (11, 0) else T.2.2.2.1 b
    by_cases e : b = (11, 0)
    · rw [if_pos e, e]
    · rw [if_neg e]
  rw [eT]
  have hS : ty_st (ty_mQ T (11, 0) (T.2.2.2.1 (11, 0))) := hST
  refine ty_iload_n (pc := 37) (i := 1) (ks := []) (by decide +kernel) rfl ?_
  refine ty_istore_n (pc := 38) (i := 3) (ks := []) (ls' := [_, _, _, _]) (by decide +kernel) rfl ?_
  -- at 39: .iload_n 3
  exact loop (m - 1 - k0) k0 _ (by omega) (Nat.le_refl _) (fun j hj => by
    rw [e2, l5 j hj]
    unfold dk_mv
    rw [if_neg (by omega)])
end DKB
