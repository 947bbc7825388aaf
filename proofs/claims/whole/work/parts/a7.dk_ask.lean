/-! A text is asked, a text is added. -/
theorem dk_h {S : ty_S} {tx : List Int} (hX : dk_X S tx) : cr_h S tx.length = dk_f tx := by
  funext p
  unfold cr_h dk_f
  by_cases e : 0 ≤ p ∧ p < (tx.length : Int)
  · rw [if_pos e, if_pos e]
    have hk : tx[p.toNat]? = some tx[p.toNat] := List.getElem?_eq_getElem (by omega)
    have := mo_at_get hX.2.2.2.1 hk
    rw [show (0 : Int) + (p.toNat : Int) = p by omega] at this
    rw [this, List.getD_eq_getElem?_getD, hk]
    rfl
  · rw [if_neg e, if_neg e]
theorem dk_nz {S : ty_S} {tx : List Int} (hX : dk_X S tx) : ∀ i, 0 ≤ i → i < (tx.length : Int) → S.2.2.1 (10, 0) i ≠ 0 := fun i i0 i1 hz => by
  have h := congrFun (dk_h hX) i
  unfold cr_h at h
  rw [if_pos ⟨i0, i1⟩, hz] at h
  have := hX.2.2.1 _ (dk_f_mem ⟨i0, i1⟩)
  omega
theorem dk_cl {x : Nat} (h : x ≤ 12) : cs_cl (dk_a x) x := by
  unfold dk_a
  by_cases e : x = 12
  · rw [if_pos e]; exact .inr ⟨rfl, e⟩
  · rw [if_neg e]; exact .inl ⟨rfl, by omega⟩
theorem dk_a_1 {x : Nat} : (dk_a x).1 = 14 ∨ (dk_a x).1 = 15 := by
  unfold dk_a
  split
  · exact .inr rfl
  · exact .inl rfl
theorem dk_a_inj {x y : Nat} (h : dk_a y = dk_a x) : y = x := by
  unfold dk_a at h
  by_cases e1 : y = 12
  · by_cases e2 : x = 12
    · omega
    · rw [if_pos e1, if_neg e2] at h
      cases h
  · by_cases e2 : x = 12
    · rw [if_neg e1, if_pos e2] at h
      cases h
    · rw [if_neg e1, if_neg e2] at h
      cases h
      rfl
theorem cr_F.N {S S' : ty_S} {x : Nat} (h : cr_F S S' (dk_a x) x) : cs_N S S' := by
  obtain ⟨a1, a2, a3, a4, a5, a6, a7⟩ := h
  have h1 := dk_a_1 (x := x)
  refine ⟨a1, fun b hb j => ⟨a3 b j (fun z => by rw [z] at hb; exact absurd hb (by decide)) (fun z => ?_), a4 b j (fun z => by rw [z] at hb; exact absurd hb (by decide))⟩, fun b hb => ⟨?_, by rw [a2], by rw [a2]⟩, fun s => by rw [a2]; exact Nat.le_refl _, by rw [a2], by rw [a2]⟩
  · rw [z.1] at hb
    rcases h1 with y | y <;> rw [y] at hb <;> exact absurd hb (by decide)
  · have ne : ∀ k i : Nat, cs_sa.contains k = false → b ≠ (k, i) := fun k i hk z => by
      rw [z] at hb
      have := List.contains_iff_mem.mpr hb
      rw [hk] at this
      cases this
    exact a5 b (ne _ _ rfl) (ne _ _ rfl) (ne _ _ rfl) (ne _ _ rfl) (ne _ _ rfl) (ne _ _ rfl) (ne _ _ rfl) (ne _ _ rfl)
theorem cr_F.W {S S' : ty_S} {x : Nat} (h : cr_F S S' (dk_a x) x) : dk_W S S' := by
  obtain ⟨a1, a2, a3, a4, a5, a6, a7⟩ := h
  have h1 := dk_a_1 (x := x)
  have ne : ∀ (b : ai_A) (k i : Nat), 53 ≤ b.1 → k < 53 → b ≠ (k, i) := fun b k i h1 h2 z => by rw [z] at h1; simp only at h1; omega
  refine ⟨fun b hb _ => ⟨fun j => ⟨a3 b j (ne b _ _ hb (by decide)) (fun z => by rw [z.1] at hb; omega), a4 b j (ne b _ _ hb (by decide))⟩, a5 b (ne b _ _ hb (by decide)) (ne b _ _ hb (by decide)) (ne b _ _ hb (by decide)) (ne b _ _ hb (by decide)) (ne b _ _ hb (by decide)) (ne b _ _ hb (by decide)) (ne b _ _ hb (by decide)) (ne b _ _ hb (by decide)), by rw [a2], by rw [a2]⟩, by rw [a2], fun s _ => by rw [a2]⟩
/-- the other texts stay -/
theorem dk_U_cr {S S' : ty_S} {tau : dk_T} {x : Nat} (hU : dk_U S tau) (h : cr_F S S' (dk_a x) x) (hn : tau x = none) : dk_U S' tau := by
  intro y t ht
  have hyx : y ≠ x := fun z => by rw [z, hn] at ht; cases ht
  obtain ⟨h1, g1, g2, g3, g4⟩ := hU y t ht
  obtain ⟨s1, s2, s3, -⟩ := dk_spec h1
  obtain ⟨a1, a2, a3, a4, a5, a6, a7⟩ := h
  have hy1 := dk_a_1 (x := y)
  have l48 := h1.2.1
  have ha : ∀ j, S'.1 (dk_a y) j = S.1 (dk_a y) j := fun j => a3 _ j (fun z => by rw [z] at hy1; revert hy1; decide) (fun z => hyx (dk_a_inj z.1))
  have hA : ∀ k : Nat, k = 31 ∨ k = 32 ∨ k = 33 ∨ k = 34 → S'.2.2.1 (k, y) = S.2.2.1 (k, y) := fun k hk => a5 _ (fun z => hyx (congrArg Prod.snd z)) (fun z => hyx (congrArg Prod.snd z)) (fun z => hyx (congrArg Prod.snd z)) (fun z => hyx (congrArg Prod.snd z)) (fun z => by have := congrArg Prod.fst z; simp only at this; omega) (fun z => by have := congrArg Prod.fst z; simp only at this; omega) (fun z => by have := congrArg Prod.fst z; simp only at this; omega) (fun z => by have := congrArg Prod.fst z; simp only at this; omega)
  refine ⟨h1, ?_, fun q as hm => ?_, ?_, fun i u hi hu hc => ?_⟩
  · unfold cs_co
    rw [ha, ha, ha, hA 31 (by omega), hA 32 (by omega), hA 33 (by omega)]
    exact g1
  · obtain ⟨b1, b2, b3⟩ := g2 q as hm
    obtain ⟨w1, w2, -⟩ := s3 q as hm
    obtain ⟨c1, c2, -⟩ := a6 (48 * y + q) (by omega)
    refine ⟨c1.trans b1, c2.trans b2, fun k a hk => ?_⟩
    have hk3 : k < 3 := by
      have : k < as.length := by
        by_cases z : k < as.length
        · exact z
        · rw [List.getElem?_eq_none (by omega)] at hk
          cases hk
      omega
    rw [a7 _ (by omega)]
    exact b3 k a hk
  · rw [hA 34 (by omega)]
    exact g3
  · rw [(a6 (48 * y + i) (by omega)).2.2]
    exact g4 i u hi hu hc
/-- a text comes into a slot -/
def dk_tp (tau : dk_T) (x : Nat) (t : List Int) : dk_T := fun y => if y = x then some t else tau y
theorem dk_U_tp {S : ty_S} {tau : dk_T} {x : Nat} {t : List Int} (hU : dk_U S tau) (hok : dk_ok x t) (hG : cr_G S (dk_f t) t.length t.length (dk_a x) x (dk_r x t).2.2.1 (dk_r x t).2.2.2) : dk_U S (dk_tp tau x t) := by
  intro y t' ht
  unfold dk_tp at ht
  by_cases e : y = x
  · rw [if_pos e] at ht
    cases ht
    subst e
    exact ⟨hok, hG⟩
  · rw [if_neg e] at ht
    exact hU y t' ht
theorem dk_L_cr {S S' : ty_S} {tau : dk_T} {s : Nat → Nat} {m x : Nat} (hL : dk_L S tau s m) (h : cr_F S S' (dk_a x) x) : dk_L S' tau s m := by
  obtain ⟨l1, l2, l3, l4, l5, l6, l7, l8⟩ := hL
  obtain ⟨a1, a2, a3, a4, a5, a6, a7⟩ := h
  have h1 := dk_a_1 (x := x)
  have hst : ∀ b : ai_A, b ≠ (16, 0) → S'.1 b 0 = S.1 b 0 := fun b hb => a3 b _ hb (fun z => by rcases z.2 with y | y <;> exact absurd y (by decide))
  exact ⟨l1, l2, l3, l4, by rw [a2]; exact l5, by rw [a3 _ _ (by decide) (fun z => by rw [← z.1] at h1; revert h1; decide)]; exact l6, fun y hy => by rw [hst _ (by simp)]; exact l7 y hy, by rw [hst _ (by decide)]; exact l8⟩
theorem dk_X_cr {S S' : ty_S} {x : Nat} (h : cr_F S S' (dk_a x) x) : S'.2.2.1 (10, 0) = S.2.2.1 (10, 0) ∧ ∀ j, S'.1 (93, 0) j = S.1 (93, 0) j := by
  obtain ⟨a1, a2, a3, a4, a5, a6, a7⟩ := h
  have h1 := dk_a_1 (x := x)
  exact ⟨a5 _ (by simp) (by simp) (by simp) (by simp) (by decide) (by decide) (by decide) (by decide), fun j => a3 _ j (by decide) (fun z => by rw [← z.1] at h1; revert h1; decide)⟩
section DKA
variable {L : Nat} {xs : Nat → Int32} {S : ty_S} {K : Nat × Nat} {th : Nat} {tau : dk_T} {s : Nat → Nat} {tx : List Int} {pl : Int} {m : Nat} {as : Option mo_M}
theorem dk_A_I {S : ty_S} (hA : dk_A S K th tau s m as) : cs_I S K th := by
  cases as with
  | none => exact hA.2
  | some M => exact hA.2.1.I
theorem dk_ask (d : Nat) (hR : dk_R S K th tau s tx pl m as) : ty_C L xs (d + 16) 36 [.inr (.inr (some (93, 0)))] S (fun o S' => ((dk_r 12 tx).1 = false ∧ o = dk_o (.inl 0) ∧ (∃ th', th' ≤ th + 1 ∧ dk_R S' K th' (dk_tq tau) s [] (dk_r 12 tx).2.1 m none) ∧ dk_W S S') ∨
    ((dk_r 12 tx).1 = true ∧ ∃ P0, (∃ S2, P0 = dk_P S2 (dk_tp tau 12 tx) s m ∧ dk_U S2 (dk_tp tau 12 tx)) ∧ mo_MI P0 (mo_start (dk_nv tx) (dk_gs (dk_tp tau 12 tx) 12)) ∧ dk_E1 S K th s [] pl m (dk_tp tau 12 tx) P0 (dk_sk (mo_seek P0 1000000 true (mo_start (dk_nv tx) (dk_gs (dk_tp tau 12 tx) 12)))) o S')) := by
  obtain ⟨hS, hU, hL, hX, hpl, hask, hA⟩ := hR
  have hI0 := dk_A_I hA
  have x1 := hX.1
  have x2 := hX.2.1
  refine ty_enter (ml := 2) (ls := [_, _]) rfl rfl (Nat.le_of_ble_eq_true rfl) ?_
  refine ty_aload_n (pc := 0) (i := 0) (ks := []) (by decide +kernel) rfl ?_
  refine ty_getI (pc := 1) (idx := 13) (ci := 0) (f := 1) (by decide +kernel) (by first | rfl | assumption) rfl (by first | exact hS.1 _ _ rfl | assumption) (fun v hv => ?_)
  subst hv
  refine ty_istore_n (pc := 4) (i := 1) (ks := []) (ls' := [_, _]) (by decide +kernel) rfl ?_
  refine ty_aload_n (pc := 5) (i := 0) (ks := []) (by decide +kernel) rfl ?_
  refine ty_iconst (pc := 6) (n := 0) (ks := []) (by decide +kernel) ?_
  refine ty_putI (pc := 7) (idx := 13) (ci := 0) (f := 1) (by decide +kernel) (by first | rfl | assumption) rfl rfl (by first | exact hS.1 _ _ rfl | assumption) ?_
  refine ty_aload_n (pc := 10) (i := 0) (ks := []) (by decide +kernel) rfl ?_
  refine ty_iconst (pc := 11) (n := 0) (ks := []) (by decide +kernel) ?_
  refine ty_putZ (pc := 12) (idx := 29) (ci := 0) (f := 6) (by decide +kernel) (by first | rfl | assumption) rfl rfl (by first | exact hS.1 _ _ rfl | assumption) (by omega) ?_
  -- at 15: .aload_n 0
  rw [x1]
  generalize hT : ty_sI (ty_sI S (93, 0) 1 0) (93, 0) 6 0 = T
  have nI : ∀ b j, ¬ (b = (93, 0) ∧ (j = 1 ∨ j = 6)) → T.1 b j = S.1 b j := fun b j hb => by
    rw [← hT]
    exact (ty_sI_ne (fun w => hb ⟨w.1, .inr w.2⟩)).trans (ty_sI_ne (fun w => hb ⟨w.1, .inl w.2⟩))
  have e2 : T.2 = S.2 := by rw [← hT]; rfl
  have iL : T.1 (93, 0) 1 = 0 ∧ T.1 (93, 0) 6 = 0 := by
    rw [← hT]
    exact ⟨(ty_sI_ne (by decide)).trans ty_sI_at, ty_sI_at⟩
  have hST : ty_st T := by rw [← hT]; exact hS
  clear hT
  have hNT : cs_N S T := dk_N_own hST e2 (fun b j hb => nI b j (fun w => hb w.1))
  have hUT : dk_U T (dk_tq tau) := dk_U_tq (dk_U_keep hU (fun b hb j => nI b j (fun w => by rw [w.1] at hb; exact absurd hb (by decide))) (fun _ _ => by rw [e2]))
  have hLT : dk_L T tau s m := by
    obtain ⟨l1, l2, l3, l4, l5, l6, l7, l8⟩ := hL
    exact ⟨l1, l2, l3, l4, by rw [e2]; exact l5, by rw [nI _ _ (by decide)]; exact l6, fun x hx => by rw [nI _ _ (by simp)]; exact l7 x hx, by rw [nI _ _ (by decide)]; exact l8⟩
  have hWT : dk_W S T := dk_W_of (by rw [e2]) (fun b j _ h2 => nI b j (fun w => h2 (by rw [w.1]))) (fun _ _ _ _ => by rw [e2])
  have hXe : dk_X T [] := ⟨iL.1, Nat.zero_le _, fun c hc => (nomatch hc), trivial, by rw [e2]; exact hX.2.2.2.2⟩
  have hIT := cs_I_N hI0 hNT (fun _ _ _ _ _ h => by unfold cs_k at h ⊢; rw [e2]; exact h)
  have hhT : cr_h T tx.length = dk_f tx := by
    rw [← dk_h hX]
    unfold cr_h
    rw [e2]
  have hnzT : ∀ i, 0 ≤ i → i < (tx.length : Int) → T.2.2.1 (10, 0) i ≠ 0 := by rw [e2]; exact dk_nz hX
  have hpT : T.1 (93, 0) 2 = pl := by rw [nI _ _ (by decide)]; exact hpl.1
  have hrd := cr_readQuestion (L := L) (xs := xs) (S := T) (n := tx.length) (a := (15, 0)) (x := 12) d hST (.inr ⟨rfl, rfl⟩) (by rw [hLT.2.2.2.2.2.2.2]; rfl) (m := tx.length) rfl ⟨by omega, by omega⟩ (by rw [e2]; exact hX.2.2.2.2) hnzT
  rw [hhT] at hrd
  have er : pt_gs (dk_f tx) 24 0 = dk_r 12 tx := by
    unfold dk_r
    rw [if_pos rfl]
  rw [er] at hrd
  have hS0 := hS
  have hS := hST
  refine ty_aload_n (pc := 15) (i := 0) (ks := []) (by decide +kernel) rfl ?_
  refine ty_getS (b := (16, 0)) (pc := 16) (idx := 51) (ci := 0) (f := 7) (by decide +kernel) (by first | rfl | assumption) rfl (by first | exact hS.1 _ _ rfl | assumption) (by first | exact hS.2.2 _ _ _ _ rfl | assumption) ?_
  refine ty_aload_n (pc := 19) (i := 0) (ks := []) (by decide +kernel) rfl ?_
  refine ty_getS (b := (10, 0)) (pc := 20) (idx := 9) (ci := 0) (f := 0) (by decide +kernel) (by first | rfl | assumption) rfl (by first | exact hS.1 _ _ rfl | assumption) (by first | exact hS.2.2 _ _ _ _ rfl | assumption) ?_
  refine ty_iload_n (pc := 23) (i := 1) (ks := []) (by decide +kernel) rfl ?_
  refine ty_aload_n (pc := 24) (i := 0) (ks := []) (by decide +kernel) rfl ?_
  refine ty_getS (b := (15, 0)) (pc := 25) (idx := 44) (ci := 0) (f := 5) (by decide +kernel) (by first | rfl | assumption) rfl (by first | exact hS.1 _ _ rfl | assumption) (by first | exact hS.2.2 _ _ _ _ rfl | assumption) ?_
  -- at 28: .invokevirtual 84
  refine ty_callv (pc := 28) (idx := 84) (m := 37) (n := 4) (c := 4) (vs := [_, _, _]) (r := []) (by decide +kernel) rfl rfl (Nat.le_of_ble_eq_true rfl) (by first | rfl | assumption) (by first | exact hS.1 _ _ rfl | assumption) hrd ?_
  rintro _ S2 ⟨z, rfl, hz, hF, hat, hGd⟩
  refine ty_KI ?_
  have ea : dk_a 12 = (15, 0) := if_pos rfl
  rw [← ea] at hF hGd
  obtain ⟨eTx, eD⟩ := dk_X_cr hF
  have hS2 := hF.1
  have hU2 := dk_U_cr hUT hF dk_tq_12
  have hL2 := dk_L_cr hLT hF
  have hN2 := hF.N
  have hI2 := cs_I_N hIT hN2 (fun _ _ _ _ _ h => by unfold cs_k at h ⊢; rw [hF.2.1]; exact h)
  have hW2 := hWT.trans hF.W
  have hX2 : dk_X S2 [] := ⟨by rw [eD]; exact hXe.1, Nat.zero_le _, fun c hc => (nomatch hc), trivial, by rw [eTx]; exact hXe.2.2.2.2⟩
  have hS := hS2
  cases hok : (dk_r 12 tx).1 with
  | false =>
    rw [hok, if_neg (by decide)] at hz
    subst hz
    have hspec := pt_gs_spec (h := dk_f tx) (n := tx.length) (fun p hp => dk_f_n hp) 24 0 (Int.le_refl _) (by omega)
    rw [er] at hspec
    refine ty_if_ne (pc := 31) (off := 22) (t := 53) (ks := []) (by decide +kernel) (by omega) (fun hc => ?_) (fun hc => ?_)
    · exact absurd rfl hc
    · refine ty_aload_n (pc := 34) (i := 0) (ks := []) (by decide +kernel) rfl ?_
      refine ty_aload_n (pc := 35) (i := 0) (ks := []) (by decide +kernel) rfl ?_
      refine ty_getS (b := (16, 0)) (pc := 36) (idx := 51) (ci := 0) (f := 7) (by decide +kernel) (by first | rfl | assumption) rfl (by first | exact hS.1 _ _ rfl | assumption) (by first | exact hS.2.2 _ _ _ _ rfl | assumption) ?_
      refine ty_getI (pc := 39) (idx := 81) (ci := 4) (f := 3) (by decide +kernel) (by first | rfl | assumption) rfl (by first | exact hS.1 _ _ rfl | assumption) (fun v hv => ?_)
      subst hv
      refine ty_putI (pc := 42) (idx := 17) (ci := 0) (f := 2) (by decide +kernel) (by first | rfl | assumption) rfl rfl (by first | exact hS.1 _ _ rfl | assumption) ?_
      -- at 45: .new 71
      rw [hat]
      refine ty_throw (pc := 45) (ins := .new 71) (x := 0) (by decide +kernel) (Nat.le_of_ble_eq_true rfl) ?_
      have nI3 : ∀ b j, ¬ (b = (93, 0) ∧ j = 2) → (ty_sI S2 (93, 0) 2 (dk_r 12 tx).2.1).1 b j = S2.1 b j := fun b j hb => if_neg hb
      refine .inl ⟨rfl, rfl, ⟨th + 1, Nat.le_refl _, ?_⟩, (hW2.trans (dk_W_of (S' := ty_sI S2 (93, 0) 2 (dk_r 12 tx).2.1) rfl (fun b j _ h2 => nI3 b j (fun w => h2 (by rw [w.1]))) (fun _ _ _ _ => rfl))).trans dk_W_th⟩
      refine dk_R_th ?_
      have hL3 : dk_L (ty_sI S2 (93, 0) 2 (dk_r 12 tx).2.1) tau s m := by
        obtain ⟨l1, l2, l3, l4, l5, l6, l7, l8⟩ := hL2
        exact ⟨l1, l2, l3, l4, l5, by rw [nI3 _ _ (by decide)]; exact l6, fun x hx => by rw [nI3 _ _ (by simp)]; exact l7 x hx, by rw [nI3 _ _ (by decide)]; exact l8⟩
      refine ⟨hS2, dk_U_keep hU2 (fun b hb j => nI3 b j (fun w => by rw [w.1] at hb; exact absurd hb (by decide))) (fun _ _ => rfl), dk_L_tq hL3 (fun x hx => if_neg hx), ⟨by rw [nI3 _ _ (by decide)]; exact hX2.1, hX2.2⟩, ⟨ty_sI_at, by omega, by omega⟩, ?_, dk_tq_12, cs_I_N hI2 (dk_N_own hS2 rfl (fun b j hb => nI3 b j (fun w => hb w.1))) (fun _ _ _ _ _ h => h)⟩
      rw [nI3 _ _ (by decide), eD]
      exact iL.2
  | true =>
    rw [hok, if_pos rfl] at hz
    subst hz
    have hG2 := hGd hok
    have hokd : dk_ok 12 tx := ⟨Nat.le_refl _, x2, hX.2.2.1, hok⟩
    have hU3 : dk_U S2 (dk_tp tau 12 tx) := by
      have := dk_U_tp hU2 hokd hG2
      intro y t ht
      refine this y t ?_
      unfold dk_tp at ht ⊢
      by_cases e : y = 12
      · rw [if_pos e] at ht ⊢; exact ht
      · rw [if_neg e] at ht ⊢
        unfold dk_tq
        rw [if_neg e]
        exact ht
    have hL3 : dk_L S2 (dk_tp tau 12 tx) s m := dk_L_tq hL2 (fun x hx => if_neg hx)
    have h12 : dk_tp tau 12 tx 12 = some tx := if_pos rfl
    have hgs : dk_gs (dk_tp tau 12 tx) 12 = (dk_r 12 tx).2.2.1.map (pt_abs 12) := by
      unfold dk_gs
      rw [h12]
    have hMI := dk_start (s := s) (m := m) hU3 h12
    have hPW := dk_PW hU3 hL3.1
    have hPG := dk_PG hU3 hL3.1
    have hPd := dk_Pd hU3 hL3
    have hco : cs_co S2 (15, 0) 12 (48 * ((12 : Nat) : Int)) (dk_nv tx) (dk_gs (dk_tp tau 12 tx) 12) := by
      rw [hgs, ← ea]
      exact hG2.1
    have hcc : S2.1 (93, 0) 4 = m := hL3.2.2.2.2.2.1
    have hp2 : S2.1 (93, 0) 2 = pl := by rw [eD]; exact hpT
    have hk2 : S2.1 (93, 0) 6 = 0 := by rw [eD]; exact iL.2
    refine ty_if_ne (pc := 31) (off := 22) (t := 53) (ks := []) (by decide +kernel) (by omega) (fun hc => ?_) (fun hc => ?_)
    rotate_left
    · exact absurd hc (by decide)
    clear hc
    refine ty_aload_n (pc := 53) (i := 0) (ks := []) (by decide +kernel) rfl ?_
    refine ty_getS (b := (17, 0)) (pc := 54) (idx := 60) (ci := 0) (f := 8) (by decide +kernel) (by first | rfl | assumption) rfl (by first | exact hS.1 _ _ rfl | assumption) (by first | exact hS.2.2 _ _ _ _ rfl | assumption) ?_
    refine ty_aload_n (pc := 57) (i := 0) (ks := []) (by decide +kernel) rfl ?_
    refine ty_getS (b := (15, 0)) (pc := 58) (idx := 44) (ci := 0) (f := 5) (by decide +kernel) (by first | rfl | assumption) rfl (by first | exact hS.1 _ _ rfl | assumption) (by first | exact hS.2.2 _ _ _ _ rfl | assumption) ?_
    refine ty_aload_n (pc := 61) (i := 0) (ks := []) (by decide +kernel) rfl ?_
    refine ty_getS (b := (11, 0)) (pc := 62) (idx := 22) (ci := 0) (f := 3) (by decide +kernel) (by first | rfl | assumption) rfl (by first | exact hS.1 _ _ rfl | assumption) (by first | exact hS.2.2 _ _ _ _ rfl | assumption) ?_
    refine ty_aload_n (pc := 65) (i := 0) (ks := []) (by decide +kernel) rfl ?_
    refine ty_getI (pc := 66) (idx := 26) (ci := 0) (f := 4) (by decide +kernel) (by first | rfl | assumption) rfl (by first | exact hS.1 _ _ rfl | assumption) (fun v hv => ?_)
    subst hv
    -- at 69: .invokevirtual 87
    rw [hcc]
    refine ty_callv (pc := 69) (idx := 87) (m := 38) (n := 4) (c := 5) (vs := [_, _, _]) (r := []) (by decide +kernel) rfl rfl (Nat.le_of_ble_eq_true rfl) (by first | rfl | assumption) (by first | exact hS.1 _ _ rfl | assumption) ((cs_begin (d + 6) hI2 hPW hPd hco (dk_nv_r hokd)).deeper (by omega)) ?_
    rintro _ S3 ⟨rfl, hY3, hF3⟩
    refine ty_KV ?_
    have hse := cs_seek (L := L) (xs := xs) (d + 4) hPW hPG hY3 hMI true (ob := 1) rfl
    obtain ⟨hU4, hL4, hX4, eP4, hD4⟩ := dk_F_parts hF3 hU3 hL3 hX2
    have hS3 : ty_st S3 := by obtain ⟨_, _, _, _, _, _, _, _, _, _, h, -⟩ := hY3.I; exact h
    refine (?_ : ty_W L xs (d + 15) _ _ _ _ _ (dk_E1 S K th s [] pl m (dk_tp tau 12 tx) (dk_P S2 (dk_tp tau 12 tx) s m) (dk_sk (mo_seek (dk_P S2 (dk_tp tau 12 tx) s m) 1000000 true (mo_start (dk_nv tx) (dk_gs (dk_tp tau 12 tx) 12)))))).mono (fun o S' h => .inr ⟨rfl, _, ⟨S2, rfl, hU3⟩, hMI, h⟩)
    generalize mo_seek (dk_P S2 (dk_tp tau 12 tx) s m) 1000000 true (mo_start (dk_nv tx) (dk_gs (dk_tp tau 12 tx) 12)) = r at hse
    have hW3 := hW2.trans hF3.W
    have hp3 : S3.1 (93, 0) 2 = pl := by rw [hD4]; exact hp2
    have hk3 : S3.1 (93, 0) 6 = 0 := by rw [hD4]; exact hk2
    have hq : ∃ q, dk_tp tau 12 tx 12 = some q := ⟨tx, h12⟩
    have etq : dk_tq (dk_tp tau 12 tx) = dk_tq tau := by
      funext y
      unfold dk_tq dk_tp
      by_cases e : y = 12
      · rw [if_pos e, if_pos e]
      · rw [if_neg e, if_neg e, if_neg e]
    have hS := hS3
    clear hY3
    refine ty_aload_n (pc := 72) (i := 0) (ks := []) (by decide +kernel) rfl ?_
    refine ty_aload_n (pc := 73) (i := 0) (ks := []) (by decide +kernel) rfl ?_
    refine ty_getS (b := (17, 0)) (pc := 74) (idx := 60) (ci := 0) (f := 8) (by decide +kernel) (by first | rfl | assumption) rfl (by first | exact hS.1 _ _ rfl | assumption) (by first | exact hS.2.2 _ _ _ _ rfl | assumption) ?_
    refine ty_iconst (pc := 77) (n := 1) (ks := []) (by decide +kernel) ?_
    -- at 78: .invokevirtual 91
    refine ty_callv (pc := 78) (idx := 91) (m := 60) (n := 2) (c := 5) (vs := [_]) (r := [_]) (by decide +kernel) rfl rfl (Nat.le_of_ble_eq_true rfl) (by first | rfl | assumption) (by first | exact hS.1 _ _ rfl | assumption) (hse.deeper (by omega)) ?_
    rintro o S4 (⟨hr, rfl, hY5, hI5, hF5⟩ | ⟨hr, hI5, hF5⟩)
    · refine ty_KI ?_
      obtain ⟨hU5, hL5, hX5, eP5, hD5⟩ := dk_F_parts hF5 hU4 hL4 hX4
      have hS5 : ty_st S4 := by obtain ⟨_, _, _, _, _, _, _, _, _, _, h, -⟩ := hY5.I; exact h
      have hS := hS5
      rw [← eP4, ← eP5] at hY5 hI5
      have hfin := dk_after (r := r) (z := r.1) hU5 hL5 hX5 ⟨by rw [hD5]; exact hp3, hpl.2⟩ hS5 hq hr hY5 hI5 rfl
      refine ty_putZ (pc := 81) (idx := 29) (ci := 0) (f := 6) (by decide +kernel) (by first | rfl | assumption) rfl rfl (by first | exact hS.1 _ _ rfl | assumption) (by omega) ?_
      -- at 84: .aload_n 0
      have haz : (ty_sI S4 (93, 0) 6 r.1).1 (93, 0) 6 = r.1 := ty_sI_at
      have hS6 : ty_st (ty_sI S4 (93, 0) 6 r.1) := hS5
      have hW6 : dk_W S4 (ty_sI S4 (93, 0) 6 r.1) := dk_W_of rfl (fun b j _ h2 => if_neg (fun w => h2 (by rw [w.1]))) (fun _ _ _ _ => rfl)
      have eP6 : dk_P (ty_sI S4 (93, 0) 6 r.1) (dk_tp tau 12 tx) s m = dk_P S4 (dk_tp tau 12 tx) s m := rfl
      generalize ty_sI S4 (93, 0) 6 r.1 = S6 at hfin haz hS6 hW6 eP6
      have hS := hS6
      have hWW := (hW3.trans hF5.W).trans hW6
      refine ty_aload_n (pc := 84) (i := 0) (ks := []) (by decide +kernel) rfl ?_
      refine ty_getI (pc := 85) (idx := 29) (ci := 0) (f := 6) (by decide +kernel) (by first | rfl | assumption) rfl (by first | exact hS.1 _ _ rfl | assumption) (fun v hv => ?_)
      subst hv
      -- at 88: .ifCond .ne 11
      rw [haz]
      refine ty_if_ne (pc := 88) (off := 11) (t := 99) (ks := []) (by decide +kernel) (by omega) (fun hc => ?_) (fun hc => ?_)
      · have e1 : r.1 = 1 := by omega
        have hok : dk_sk r = (.inr r.2.1, some r.2) := if_pos e1
        rw [hok] at hfin ⊢
        have hfin0 := hfin
        obtain ⟨-, f2, -, -, -, -, -, f8, f9⟩ := hfin
        obtain ⟨c, st, came, sl, al, ar, ⟨made, bd, ch, ns, dn, an, aw⟩, todo, cs, ans⟩ := r
        obtain ⟨B, F, E, n, w1, w2, w3, w4, -⟩ := cs_Y_facts f8 f9 (dk_wf f2)
        refine ty_aload_n (pc := 99) (i := 0) (ks := []) (by decide +kernel) rfl ?_
        refine ty_getS (b := (17, 0)) (pc := 100) (idx := 60) (ci := 0) (f := 8) (by decide +kernel) (by first | rfl | assumption) rfl (by first | exact hS.1 _ _ rfl | assumption) (by first | exact hS.2.2 _ _ _ _ rfl | assumption) ?_
        refine ty_getS (b := (37, 0)) (pc := 103) (idx := 98) (ci := 5) (f := 2) (by decide +kernel) (by first | rfl | assumption) rfl (by first | exact hS.1 _ _ rfl | assumption) (by first | exact hS.2.2 _ _ _ _ rfl | assumption) ?_
        refine ty_getI (pc := 106) (idx := 102) (ci := 7) (f := 0) (by decide +kernel) (by first | rfl | assumption) rfl (by first | exact hS.1 _ _ rfl | assumption) (fun v hv => ?_)
        subst hv
        -- at 109: .ireturn
        refine ty_ret_i (pc := 109) (ks := []) (ty := .int) (by decide +kernel) rfl rfl ?_
        refine ⟨?_, ⟨th, Nat.le_succ _, hfin0⟩, hWW, (eP6.trans eP5).trans eP4⟩
        rw [w4]
        rfl
      · have e0 : r.1 = 0 := hc
        have hno : dk_sk r = (.inl 2, none) := by
          unfold dk_sk
          rw [if_neg (by omega), if_pos e0]
        rw [hno] at hfin ⊢
        refine ty_throw (pc := 91) (ins := .new 95) (x := 2) (by decide +kernel) (Nat.le_of_ble_eq_true rfl) ?_
        exact ⟨rfl, ⟨th + 1, Nat.le_refl _, dk_R_th hfin⟩, hWW.trans dk_W_th, (eP6.trans eP5).trans eP4⟩
    · obtain ⟨hU5, hL5, hX5, eP5, hD5⟩ := dk_F_parts hF5 hU4 hL4 hX4
      have hS5 : ty_st S4 := by obtain ⟨_, _, _, _, _, _, _, _, _, _, h, -⟩ := hI5; exact h
      have hdead : dk_R S4 K (th + 1) (dk_tq (dk_tp tau 12 tx)) s [] pl m none := ⟨hS5, dk_U_tq hU5, dk_L_tq hL5 (fun x hx => if_neg hx), hX5, ⟨by rw [hD5]; exact hp3, hpl.2⟩, by rw [hD5]; exact hk3, dk_tq_12, hI5⟩
      have hWW := hW3.trans hF5.W
      rcases hr with ⟨e, rfl⟩ | ⟨e, rfl⟩
      · have hno : dk_sk r = (.inl 1, none) := by
          unfold dk_sk
          rw [if_neg (by omega), if_neg (by omega), if_pos e]
        rw [hno]
        refine ty_KX (by decide +kernel) ?_
        exact ⟨rfl, ⟨th + 1, Nat.le_refl _, hdead⟩, hWW, eP5.trans eP4⟩
      · have hno : dk_sk r = (.inl 3, none) := by
          unfold dk_sk
          rw [if_neg (by omega), if_neg (by omega), if_neg (by omega)]
        rw [hno]
        refine ty_KX (by decide +kernel) ?_
        exact ⟨rfl, ⟨th + 1, Nat.le_refl _, hdead⟩, hWW, eP5.trans eP4⟩
end DKA
