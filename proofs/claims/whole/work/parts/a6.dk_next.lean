/-! The next answer. -/
/-- what the class never touches: the reference, and the array that values come back in -/
def dk_W (S S' : ty_S) : Prop := (∀ b : ai_A, 53 ≤ b.1 → b.1 ≠ 93 → (∀ j, S'.1 b j = S.1 b j ∧ S'.2.1 b j = S.2.1 b j) ∧ S'.2.2.1 b = S.2.2.1 b ∧ S'.2.2.2.1 b = S.2.2.2.1 b ∧ S'.2.2.2.2.2.1 b = S.2.2.2.2.2.1 b) ∧ S'.2.2.2.2.1 = S.2.2.2.2.1 ∧ ∀ s, 53 ≤ s → S'.2.2.2.2.2.2.1 s = S.2.2.2.2.2.2.1 s
theorem dk_W.refl {S : ty_S} : dk_W S S := ⟨fun _ _ _ => ⟨fun _ => ⟨rfl, rfl⟩, rfl, rfl, rfl⟩, rfl, fun _ _ => rfl⟩
theorem dk_W.trans {S S1 S2 : ty_S} (h : dk_W S S1) (g : dk_W S1 S2) : dk_W S S2 := ⟨fun b a c => ⟨fun j => ⟨((g.1 b a c).1 j).1.trans ((h.1 b a c).1 j).1, ((g.1 b a c).1 j).2.trans ((h.1 b a c).1 j).2⟩, (g.1 b a c).2.1.trans (h.1 b a c).2.1, (g.1 b a c).2.2.1.trans (h.1 b a c).2.2.1, (g.1 b a c).2.2.2.trans (h.1 b a c).2.2.2⟩, g.2.1.trans h.2.1, fun s a => (g.2.2 s a).trans (h.2.2 s a)⟩
theorem dk_W_of {S S' : ty_S} (e3 : S'.2.2 = S.2.2) (eI : ∀ b j, 53 ≤ b.1 → b.1 ≠ 93 → S'.1 b j = S.1 b j) (eR : ∀ b j, 53 ≤ b.1 → b.1 ≠ 93 → S'.2.1 b j = S.2.1 b j) : dk_W S S' := ⟨fun b a c => ⟨fun j => ⟨eI b j a c, eR b j a c⟩, by rw [e3], by rw [e3], by rw [e3]⟩, by rw [e3], fun s _ => by rw [e3]⟩
theorem dk_W_th {S : ty_S} : dk_W S (ty_th S) := ⟨fun _ _ _ => ⟨fun _ => ⟨rfl, rfl⟩, rfl, rfl, rfl⟩, rfl, fun _ _ => rfl⟩
theorem dk_big {l : List Nat} {k : Nat} (hl : l.all (fun x => Nat.blt x 53) = true) (h : 53 ≤ k) : k ∉ l := fun z => by
  have := List.all_eq_true.mp hl k z
  have := Nat.blt_eq.mp this
  omega
theorem cs_F.W {S S' : ty_S} (h : cs_F S S') : dk_W S S' := ⟨fun b a _ => ⟨h.1 b (dk_big rfl a), (h.2.1 b (dk_big rfl a)).1, (h.2.1 b (dk_big rfl a)).2.1 (by omega), (h.2.1 b (dk_big rfl a)).2.2⟩, h.2.2.1, fun s a => h.2.2.2 s (dk_big rfl a)⟩
/-- no question -/
def dk_tq (tau : dk_T) : dk_T := fun x => if x = 12 then none else tau x
theorem dk_tq_12 {tau : dk_T} : dk_tq tau 12 = none := if_pos rfl
theorem dk_U_tq {S : ty_S} {tau : dk_T} (h : dk_U S tau) : dk_U S (dk_tq tau) := fun x t ht => by
  unfold dk_tq at ht
  by_cases e : x = 12
  · rw [if_pos e] at ht; cases ht
  · rw [if_neg e] at ht; exact h x t ht
theorem dk_L_tq {S : ty_S} {tau tau' : dk_T} {s : Nat → Nat} {m : Nat} (h : dk_L S tau s m) (he : ∀ x, x ≠ 12 → tau' x = tau x) : dk_L S tau' s m := by
  obtain ⟨⟨a1, a2⟩, l2, l3, l4, l5⟩ := h
  refine ⟨⟨a1, fun i hi => ?_⟩, l2, l3, fun x hx hi => by rw [he x hx]; exact l4 x hx hi, l5⟩
  obtain ⟨b1, t, b2⟩ := a2 i hi
  exact ⟨b1, t, by rw [he _ (by omega)]; exact b2⟩
/-- the parts that a search leaves -/
theorem dk_F_parts {S S' : ty_S} {tau : dk_T} {s : Nat → Nat} {tx : List Int} {m : Nat} (hF : cs_F S S') (hU : dk_U S tau) (hL : dk_L S tau s m) (hX : dk_X S tx) : dk_U S' tau ∧ dk_L S' tau s m ∧ dk_X S' tx ∧ dk_P S' tau s m = dk_P S tau s m ∧ ∀ j, S'.1 (93, 0) j = S.1 (93, 0) j := by
  have hD : ∀ j, S'.1 (93, 0) j = S.1 (93, 0) j := fun j => (hF.1 (93, 0) (by decide) j).1
  have h14 : ∀ b : ai_A, b.1 = 14 ∨ b.1 = 15 → ∀ j, S'.1 b j = S.1 b j := fun b hb j => (hF.1 b (by rcases hb with z | z <;> rw [z] <;> decide) j).1
  have hA : ∀ b : ai_A, b.1 ∈ dk_sa → S'.2.2.1 b = S.2.2.1 b := fun b hb => (hF.2.1 b (fun z => by
    have : ∀ k, k ∈ dk_sa → k ∉ cs_sa := by decide
    exact this b.1 hb z)).1
  refine ⟨dk_U_keep hU h14 hA, ?_, ?_, dk_P_eq hA, hD⟩
  · obtain ⟨l1, l2, l3, l4, l5, l6, l7, l8⟩ := hL
    exact ⟨l1, l2, l3, l4, by rw [(hF.2.1 (11, 0) (by decide)).2.1 (by decide)]; exact l5, by rw [hD]; exact l6, fun x hx => by rw [h14 _ (.inl rfl)]; exact l7 x hx, by rw [h14 _ (.inr rfl)]; exact l8⟩
  · obtain ⟨x1, x2, x3, x4, x5⟩ := hX
    have e := (hF.2.1 (10, 0) (by decide)).1
    exact ⟨by rw [hD]; exact x1, x2, x3, by rw [e]; exact x4, by rw [e]; exact x5⟩
/-- ints of the desk itself -/
theorem dk_N_own {S S' : ty_S} (hS : ty_st S') (e2 : S'.2 = S.2) (nI : ∀ b j, b ≠ (93, 0) → S'.1 b j = S.1 b j) : cs_N S S' := ⟨hS, fun b a j => ⟨nI b j (fun z => by rw [z] at a; exact absurd a (by decide)), by rw [e2]⟩, fun b _ => by rw [e2]; exact ⟨rfl, rfl, rfl⟩, fun _ => by rw [e2]; exact Nat.le_refl _, by rw [e2], by rw [e2]⟩
/-- what seek's result means for the desk -/
def dk_sk (r : Int × mo_M) : (Nat ⊕ Int) × Option mo_M := if r.1 = 1 then (.inr r.2.1, some r.2) else (.inl (if r.1 = 0 then 2 else if r.1 = 2 then 1 else 3), none)
def dk_nx (P : mo_P) (as : Option mo_M) : (Nat ⊕ Int) × Option mo_M := match as with
  | none => (.inl 2, none)
  | some M => dk_sk (mo_seek P 1000000 false M)
section DKN
variable {L : Nat} {xs : Nat → Int32} {S : ty_S} {K : Nat × Nat} {th : Nat} {tau : dk_T} {s : Nat → Nat} {tx : List Int} {pl : Int} {m : Nat} {as : Option mo_M}
/-- what a method leaves: outcome R, then the desk -/
def dk_E1 (S : ty_S) (K : Nat × Nat) (th : Nat) (s : Nat → Nat) (tx : List Int) (pl : Int) (m : Nat) (tau : dk_T) (P0 : mo_P) (R : (Nat ⊕ Int) × Option mo_M) : ai_O → ty_S → Prop := fun o S' => o = dk_o R.1 ∧ (∃ th', th' ≤ th + 1 ∧ dk_R S' K th' (if R.2.isSome = true then tau else dk_tq tau) s tx pl m R.2) ∧ dk_W S S' ∧ dk_P S' tau s m = P0
/-- the end of ask and of next: seek has answered -/
theorem dk_after {S2 : ty_S} {r : Int × mo_M} (hU : dk_U S2 tau) (hL : dk_L S2 tau s m) (hX : dk_X S2 tx) (hpl : S2.1 (93, 0) 2 = pl ∧ -1 ≤ pl ∧ pl ≤ 48) (hS : ty_st S2) (hq : ∃ q, tau 12 = some q) (hr : r.1 = 0 ∨ r.1 = 1) (hY : cs_Y S2 (dk_P S2 tau s m) K th r.2) (hI : mo_MI (dk_P S2 tau s m) r.2) {z : Int} (hz : z = r.1) :
    dk_R (ty_sI S2 (93, 0) 6 z) K th (if (dk_sk r).2.isSome = true then tau else dk_tq tau) s tx pl m (dk_sk r).2 := by
  have nI : ∀ b j, ¬ (b = (93, 0) ∧ j = 6) → (ty_sI S2 (93, 0) 6 z).1 b j = S2.1 b j := fun b j hb => if_neg hb
  have hN : cs_N S2 (ty_sI S2 (93, 0) 6 z) := dk_N_own hS rfl (fun b j hb => nI b j (fun w => hb w.1))
  have hU' : dk_U (ty_sI S2 (93, 0) 6 z) tau := dk_U_keep hU (fun b hb j => nI b j (fun w => by rw [w.1] at hb; exact absurd hb (by decide))) (fun _ _ => rfl)
  have hL' : dk_L (ty_sI S2 (93, 0) 6 z) tau s m := by
    obtain ⟨l1, l2, l3, l4, l5, l6, l7, l8⟩ := hL
    exact ⟨l1, l2, l3, l4, l5, by rw [nI _ _ (by decide)]; exact l6, fun x hx => by rw [nI _ _ (by simp)]; exact l7 x hx, by rw [nI _ _ (by decide)]; exact l8⟩
  have hX' : dk_X (ty_sI S2 (93, 0) 6 z) tx := by
    obtain ⟨x1, x2, x3, x4, x5⟩ := hX
    exact ⟨by rw [nI _ _ (by decide)]; exact x1, x2, x3, x4, x5⟩
  have hp' : (ty_sI S2 (93, 0) 6 z).1 (93, 0) 2 = pl ∧ -1 ≤ pl ∧ pl ≤ 48 := by rw [nI _ _ (by decide)]; exact hpl
  rcases hr with e | e
  · have hsk : dk_sk r = (.inl 2, none) := by
      unfold dk_sk
      rw [if_neg (by omega), if_pos e]
    rw [hsk]
    show dk_R _ K th (dk_tq tau) s tx pl m none
    refine ⟨hS, dk_U_tq hU', dk_L_tq hL' (fun x hx => if_neg hx), hX', hp', ?_, dk_tq_12, ?_⟩
    · rw [ty_sI_at, hz, e]; rfl
    · exact cs_I_N hY.I hN (fun _ _ _ _ _ h => h)
  · have hsk : dk_sk r = (.inr r.2.1, some r.2) := if_pos e
    rw [hsk]
    show dk_R _ K th tau s tx pl m (some r.2)
    refine ⟨hS, hU', hL', hX', hp', ?_, hq, ?_, hI⟩
    · rw [ty_sI_at, hz, e]; rfl
    · exact cs_Y_N hY hN (dk_Pd hU' hL') rfl (fun _ _ _ _ _ h => h)
theorem dk_next (d : Nat) (hR : dk_R S K th tau s tx pl m as) : ty_C L xs (d + 12) 93 [.inr (.inr (some (93, 0)))] S (dk_E1 S K th s tx pl m tau (dk_P S tau s m) (dk_nx (dk_P S tau s m) as)) := by
  have hR0 := hR
  obtain ⟨hS, hU, hL, hX, hpl, hask, hA⟩ := hR
  have har : 0 ≤ S.1 (93, 0) 6 ∧ S.1 (93, 0) 6 ≤ 1 := by rw [hask]; split <;> omega
  refine ty_enter (ml := 1) (ls := [_]) rfl rfl (Nat.le_of_ble_eq_true rfl) ?_
  refine ty_aload_n (pc := 0) (i := 0) (ks := []) (by decide +kernel) rfl ?_
  refine ty_getI (pc := 1) (idx := 29) (ci := 0) (f := 6) (by decide +kernel) (by first | rfl | assumption) rfl (by first | exact hS.1 _ _ rfl | assumption) (fun v hv => ?_)
  subst hv
  -- at 4: .ifCond .ne 11
  rw [hask]
  cases as with
  | none =>
    refine ty_if_ne (pc := 4) (off := 11) (t := 15) (ks := []) (by decide +kernel) (by omega) (fun hc => ?_) (fun hc => ?_)
    · exact absurd rfl hc
    · refine ty_throw (pc := 7) (ins := .new 95) (x := 2) (by decide +kernel) (Nat.le_of_ble_eq_true rfl) ?_
      refine ⟨rfl, ⟨th + 1, Nat.le_refl _, ?_⟩, dk_W_th, rfl⟩
      have e : dk_tq tau = tau := by
        funext x
        unfold dk_tq
        by_cases e : x = 12
        · rw [if_pos e, e]; exact hA.1.symm
        · rw [if_neg e]
      show dk_R (ty_th S) K (th + 1) (dk_tq tau) s tx pl m none
      rw [e]
      exact dk_R_th hR0
  | some M =>
    obtain ⟨hq, hY, hI⟩ := hA
    refine ty_if_ne (pc := 4) (off := 11) (t := 15) (ks := []) (by decide +kernel) (by omega) (fun hc => ?_) (fun hc => ?_)
    rotate_left
    · exact absurd hc (by simp)
    clear hc
    refine ty_aload_n (pc := 15) (i := 0) (ks := []) (by decide +kernel) rfl ?_
    refine ty_iconst (pc := 16) (n := 0) (ks := []) (by decide +kernel) ?_
    refine ty_putZ (pc := 17) (idx := 29) (ci := 0) (f := 6) (by decide +kernel) (by first | rfl | assumption) rfl rfl (by first | exact hS.1 _ _ rfl | assumption) (by omega) ?_
    -- at 20: .aload_n 0
    have nI : ∀ b j, ¬ (b = (93, 0) ∧ j = 6) → (ty_sI S (93, 0) 6 0).1 b j = S.1 b j := fun b j hb => if_neg hb
    have hN1 : cs_N S (ty_sI S (93, 0) 6 0) := dk_N_own hS rfl (fun b j hb => nI b j (fun w => hb w.1))
    have hU1 : dk_U (ty_sI S (93, 0) 6 0) tau := dk_U_keep hU (fun b hb j => nI b j (fun w => by rw [w.1] at hb; exact absurd hb (by decide))) (fun _ _ => rfl)
    have hL1 : dk_L (ty_sI S (93, 0) 6 0) tau s m := by
      obtain ⟨l1, l2, l3, l4, l5, l6, l7, l8⟩ := hL
      exact ⟨l1, l2, l3, l4, l5, by rw [nI _ _ (by decide)]; exact l6, fun x hx => by rw [nI _ _ (by simp)]; exact l7 x hx, by rw [nI _ _ (by decide)]; exact l8⟩
    have hX1 : dk_X (ty_sI S (93, 0) 6 0) tx := by
      obtain ⟨x1, x2, x3, x4, x5⟩ := hX
      exact ⟨by rw [nI _ _ (by decide)]; exact x1, x2, x3, x4, x5⟩
    have hp1 : (ty_sI S (93, 0) 6 0).1 (93, 0) 2 = pl := by rw [nI _ _ (by decide)]; exact hpl.1
    have ha1 : (ty_sI S (93, 0) 6 0).1 (93, 0) 6 = 0 := ty_sI_at
    have hY1 : cs_Y (ty_sI S (93, 0) 6 0) (dk_P S tau s m) K th M := cs_Y_N hY hN1 (dk_Pd hU1 hL1) rfl (fun _ _ _ _ _ h => h)
    have hW1 : dk_W S (ty_sI S (93, 0) 6 0) := dk_W_of rfl (fun b j _ h2 => nI b j (fun w => h2 (by rw [w.1]))) (fun _ _ _ _ => rfl)
    have hS1 : ty_st (ty_sI S (93, 0) 6 0) := hS
    have hPW := dk_PW hU hL.1
    have hPG := dk_PG hU hL.1
    have eP1 : dk_P (ty_sI S (93, 0) 6 0) tau s m = dk_P S tau s m := rfl
    generalize ty_sI S (93, 0) 6 0 = S1 at hN1 hU1 hL1 hX1 hp1 ha1 hY1 hW1 hS1 eP1
    have hS0 := hS
    have hS := hS1
    have hse := cs_seek (L := L) (xs := xs) d hPW hPG hY1 hI false (ob := 0) rfl
    have hnx : dk_nx (dk_P S tau s m) (some M) = dk_sk (mo_seek (dk_P S tau s m) 1000000 false M) := rfl
    rw [hnx]
    clear hnx nI
    generalize mo_seek (dk_P S tau s m) 1000000 false M = r at hse
    refine ty_aload_n (pc := 20) (i := 0) (ks := []) (by decide +kernel) rfl ?_
    refine ty_aload_n (pc := 21) (i := 0) (ks := []) (by decide +kernel) rfl ?_
    refine ty_getS (b := (17, 0)) (pc := 22) (idx := 60) (ci := 0) (f := 8) (by decide +kernel) (by first | rfl | assumption) rfl (by first | exact hS.1 _ _ rfl | assumption) (by first | exact hS.2.2 _ _ _ _ rfl | assumption) ?_
    refine ty_iconst (pc := 25) (n := 0) (ks := []) (by decide +kernel) ?_
    -- at 26: .invokevirtual 91
    refine ty_callv (pc := 26) (idx := 91) (m := 60) (n := 2) (c := 5) (vs := [_]) (r := [_]) (by decide +kernel) rfl rfl (Nat.le_of_ble_eq_true rfl) (by first | rfl | assumption) (by first | exact hS.1 _ _ rfl | assumption) hse ?_
    rintro o S2 (⟨hr, rfl, hY2, hI2, hF2⟩ | ⟨hr, hI2, hF2⟩)
    · refine ty_KI ?_
      obtain ⟨hU2, hL2, hX2, eP2, hD2⟩ := dk_F_parts hF2 hU1 hL1 hX1
      have hS2 : ty_st S2 := by obtain ⟨_, _, _, _, _, _, _, _, _, _, h, -⟩ := hY2.I; exact h
      have hS := hS2
      rw [← eP1, ← eP2] at hY2 hI2
      have hfin := dk_after (r := r) (z := r.1) hU2 hL2 hX2 ⟨by rw [hD2]; exact hp1, hpl.2⟩ hS2 hq hr hY2 hI2 rfl
      refine ty_putZ (pc := 29) (idx := 29) (ci := 0) (f := 6) (by decide +kernel) (by first | rfl | assumption) rfl rfl (by first | exact hS.1 _ _ rfl | assumption) (by omega) ?_
      -- at 32: .aload_n 0
      have haz : (ty_sI S2 (93, 0) 6 r.1).1 (93, 0) 6 = r.1 := ty_sI_at
      have hS3 : ty_st (ty_sI S2 (93, 0) 6 r.1) := hS2
      have hW3 : dk_W S2 (ty_sI S2 (93, 0) 6 r.1) := dk_W_of rfl (fun b j _ h2 => if_neg (fun w => h2 (by rw [w.1]))) (fun _ _ _ _ => rfl)
      have eP3 : dk_P (ty_sI S2 (93, 0) 6 r.1) tau s m = dk_P S2 tau s m := rfl
      generalize ty_sI S2 (93, 0) 6 r.1 = S3 at hfin haz hS3 hW3 eP3
      have hS := hS3
      have hWW := (hW1.trans hF2.W).trans hW3
      refine ty_aload_n (pc := 32) (i := 0) (ks := []) (by decide +kernel) rfl ?_
      refine ty_getI (pc := 33) (idx := 29) (ci := 0) (f := 6) (by decide +kernel) (by first | rfl | assumption) rfl (by first | exact hS.1 _ _ rfl | assumption) (fun v hv => ?_)
      subst hv
      -- at 36: .ifCond .ne 11
      rw [haz]
      refine ty_if_ne (pc := 36) (off := 11) (t := 47) (ks := []) (by decide +kernel) (by omega) (fun hc => ?_) (fun hc => ?_)
      · have e1 : r.1 = 1 := by omega
        have hok : dk_sk r = (.inr r.2.1, some r.2) := if_pos e1
        rw [hok] at hfin ⊢
        have hfin0 := hfin
        obtain ⟨-, f2, -, -, -, -, -, f8, f9⟩ := hfin
        obtain ⟨c, st, came, sl, al, ar, ⟨made, bd, ch, ns, dn, an, aw⟩, todo, cs, ans⟩ := r
        obtain ⟨B, F, E, n, w1, w2, w3, w4, -⟩ := cs_Y_facts f8 f9 (dk_wf f2)
        refine ty_aload_n (pc := 47) (i := 0) (ks := []) (by decide +kernel) rfl ?_
        refine ty_getS (b := (17, 0)) (pc := 48) (idx := 60) (ci := 0) (f := 8) (by decide +kernel) (by first | rfl | assumption) rfl (by first | exact hS.1 _ _ rfl | assumption) (by first | exact hS.2.2 _ _ _ _ rfl | assumption) ?_
        refine ty_getS (b := (37, 0)) (pc := 51) (idx := 98) (ci := 5) (f := 2) (by decide +kernel) (by first | rfl | assumption) rfl (by first | exact hS.1 _ _ rfl | assumption) (by first | exact hS.2.2 _ _ _ _ rfl | assumption) ?_
        refine ty_getI (pc := 54) (idx := 102) (ci := 7) (f := 0) (by decide +kernel) (by first | rfl | assumption) rfl (by first | exact hS.1 _ _ rfl | assumption) (fun v hv => ?_)
        subst hv
        -- at 57: .ireturn
        refine ty_ret_i (pc := 57) (ks := []) (ty := .int) (by decide +kernel) rfl rfl ?_
        refine ⟨?_, ⟨th, Nat.le_succ _, ?_⟩, hWW, (eP3.trans eP2).trans eP1⟩
        · rw [w4]; rfl
        · exact hfin0
      · have e0 : r.1 = 0 := hc
        have hno : dk_sk r = (.inl 2, none) := by
          unfold dk_sk
          rw [if_neg (by omega), if_pos e0]
        rw [hno] at hfin ⊢
        refine ty_throw (pc := 39) (ins := .new 95) (x := 2) (by decide +kernel) (Nat.le_of_ble_eq_true rfl) ?_
        exact ⟨rfl, ⟨th + 1, Nat.le_refl _, dk_R_th hfin⟩, hWW.trans dk_W_th, (eP3.trans eP2).trans eP1⟩
    · obtain ⟨hU2, hL2, hX2, eP2, hD2⟩ := dk_F_parts hF2 hU1 hL1 hX1
      have hS2 : ty_st S2 := by obtain ⟨_, _, _, _, _, _, _, _, _, _, h, -⟩ := hI2; exact h
      have hdead : dk_R S2 K (th + 1) (dk_tq tau) s tx pl m none := ⟨hS2, dk_U_tq hU2, dk_L_tq hL2 (fun x hx => if_neg hx), hX2, ⟨by rw [hD2]; exact hp1, hpl.2⟩, by rw [hD2]; exact ha1, dk_tq_12, hI2⟩
      have hWW := hW1.trans hF2.W
      rcases hr with ⟨e, rfl⟩ | ⟨e, rfl⟩
      · have hno : dk_sk r = (.inl 1, none) := by
          unfold dk_sk
          rw [if_neg (by omega), if_neg (by omega), if_pos e]
        rw [hno]
        refine ty_KX (by decide +kernel) ?_
        exact ⟨rfl, ⟨th + 1, Nat.le_refl _, hdead⟩, hWW, eP2.trans eP1⟩
      · have hno : dk_sk r = (.inl 3, none) := by
          unfold dk_sk
          rw [if_neg (by omega), if_neg (by omega), if_neg (by omega)]
        rw [hno]
        refine ty_KX (by decide +kernel) ?_
        exact ⟨rfl, ⟨th + 1, Nat.le_refl _, hdead⟩, hWW, eP2.trans eP1⟩
end DKN
