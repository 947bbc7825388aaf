/-! The reference seeks. -/
theorem mo_seek_t {P : mo_P} {k : Nat} {M : mo_M} (h : M.2.2.2.2.2.2.1 ≠ []) : mo_seek P (k + 1) true M = if (mo_round P true M).1 = 1 then mo_seek P k true (mo_round P true M).2 else if (mo_round P true M).1 = 0 then mo_seek P k false (mo_round P true M).2 else mo_round P true M := by
  have e1 : ¬ ((true : Bool) = true ∧ M.2.2.2.2.2.2.1 = []) := fun z => h z.2
  have e2 : ¬ ((true : Bool) = false ∧ M.2.2.2.2.2.2.2.1 = []) := fun z => absurd z.1 (by decide)
  show (if (true : Bool) = true ∧ M.2.2.2.2.2.2.1 = [] then _ else _) = _
  rw [if_neg e1, if_neg e2]
theorem mo_seek_a {P : mo_P} {k : Nat} {M : mo_M} (h : M.2.2.2.2.2.2.1 = []) : mo_seek P (k + 1) true M = (1, (M.1, M.2.1, M.2.2.1, M.2.2.2.1, M.2.2.2.2.1, M.2.2.2.2.2.1, M.2.2.2.2.2.2.1, M.2.2.2.2.2.2.2.1, M.2.2.2.2.2.2.2.2 + 1)) := by
  show (if (true : Bool) = true ∧ M.2.2.2.2.2.2.1 = [] then _ else _) = _
  rw [if_pos ⟨rfl, h⟩]
theorem mo_round_I {P : mo_P} (hW : mo_PW P) (hG : mo_PG P) {M : mo_M} (hMI : mo_MI P M) (h0 : M.2.2.2.2.2.2.1 ≠ []) (h2 : (mo_round P true M).1 = 0 ∨ (mo_round P true M).1 = 1) : mo_MI P (mo_round P true M).2 ∧ mo_ph (mo_round P true M).2 < mo_ph M := by
  have han := mo_an_r hMI
  by_cases e : (mo_first P M).1 = 2
  · exfalso
    have := mo_round_n (P := P) (M := M) (c := (mo_first P M).1) (M1 := (mo_first P M).2.1) (ps := (mo_first P M).2.2.1) (tk := (mo_first P M).2.2.2) rfl (by omega)
    rw [this] at h2
    simp only at h2
    omega
  · have k2 := mo_first_I hW hMI e
    have k3 := mo_first_ph hW hMI h0 e
    by_cases e1 : (mo_first P M).1 = 1
    · have hf : mo_first P M = (1, (mo_first P M).2.1, (mo_first P M).2.2.1, (mo_first P M).2.2.2) := by
        rw [← e1]
      rw [mo_round_1 hf]
      have hfin := mo_fin_I hW (newest := mo_an M) k2.1 k2.2.1 (mo_bdy_ok hW hG k2.2.2.2) han.1
      refine ⟨hfin.2.1, ?_⟩
      have k3 := k3.1
      unfold mo_ph at k3 ⊢
      rw [hfin.2.2.2]
      have := hfin.2.2.1
      omega
    · have := mo_round_n (P := P) (M := M) (c := (mo_first P M).1) (M1 := (mo_first P M).2.1) (ps := (mo_first P M).2.2.1) (tk := (mo_first P M).2.2.2) rfl e1
      rw [this]
      exact ⟨k2.1, k3.1⟩
/-- what seek comes to -/
def rq_p (S : ty_S) (I : Nat → Int) (A : Nat → Int → Int) (P : mo_P) (R : Int × mo_M) : ai_O → ty_S → Prop := ty_oI fun z S' => ∃ I' A', S' = rm_s S I' A' ∧ rx_E I' ∧ ((R.1 = 1 ∧ z = R.2.1 ∧ rx_K I A I' A' ∧ mo_MI P R.2 ∧ ∃ ta' rl' nc' ng' na', rx_S I' A' P.1 ta' rl' nc' ng' na' R.2) ∨ (z = 0 ∧ rx_K (rm_u I 38 0) A I' A' ∧ (R.1 = 0 ∧ I' 11 = 2 ∨ R.1 = 2 ∧ I' 11 = 3 ∨ R.1 = 3 ∧ I' 11 = 4)))
section RXQ
variable {L : Nat} {xs : Nat → Int32} {S S0 : ty_S} {tau : dk_T} {s : Nat → Nat} {m : Nat}
theorem rq_fail (d : Nat) (hS : ty_st S) {I I1 : Nat → Int} {A A1 : Nat → Int → Int} {P : mo_P} {R : Int × mo_M} {f w : Int32} (hK : rx_K I A I1 A1) (hE : rx_E I1) (h : R.1 = 0 ∧ I1 11 = 2 ∨ R.1 = 2 ∧ I1 11 = 3 ∨ R.1 = 3 ∧ I1 11 = 4) :
    ty_W L xs d 124 95 [some (.inr (.inr (some (94, 0)))), some (.inl f), some (.inl w)] [] (rm_s S I1 A1) (rq_p S I A P R) := by
  have ht : 2 ≤ I1 11 ∧ I1 11 ≤ 4 := by omega
  refine ty_aload_n (pc := 95) (i := 0) (ks := []) (by decide +kernel) rfl ?_
  refine ty_getI (pc := 96) (idx := 135) (ci := 13) (f := 11) (by decide +kernel) (by first | rfl | assumption) rfl (by first | exact hS.1 _ _ rfl | assumption) (fun v hv => ?_)
  simp (decide := true) only [rm_I, rm_u, rm_w, ty_sI, ty_sR, ty_sA, ty_sQ, ty_mA, ty_mQ, ↓reduceIte, false_and, and_false, true_and, and_true, and_self] at hv
  subst hv
  -- at 99: .ifCond .le 10
  refine ty_if_le (pc := 99) (off := 10) (t := 109) (ks := []) (by decide +kernel) (by omega) (fun hc => ?_) (fun hc => ?_)
  · omega
  clear hc
  refine ty_aload_n (pc := 102) (i := 0) (ks := []) (by decide +kernel) rfl ?_
  refine ty_iconst (pc := 103) (n := 0) (ks := []) (by decide +kernel) ?_
  refine ty_putZ (pc := 104) (idx := 177) (ci := 13) (f := 38) (by decide +kernel) (by first | rfl | assumption) rfl rfl (by first | exact hS.1 _ _ rfl | assumption) (by omega) ?_
  rw [rm_sI]
  refine ty_iconst (pc := 107) (n := 0) (ks := []) (by decide +kernel) ?_
  -- at 108: .ireturn
  refine ty_ret_i (pc := 108) (ks := []) (ty := .int) (by decide +kernel) rfl rfl ?_
  exact ⟨0, rfl, _, A1, rfl, hE, .inr ⟨rfl, ⟨⟨hK.1.1, hK.1.2.1, hK.1.2.2.1, rfl⟩, hK.2⟩, h⟩⟩
/-- nothing more to go back to, or thrown -/
theorem rq_off (d : Nat) (hS : ty_st S) {I I1 : Nat → Int} {A A1 : Nat → Int → Int} {P : mo_P} {R : Int × mo_M} {f : Int32} (hK : rx_K I A I1 A1) (hE : rx_E I1) (h : R.1 = 0 ∧ I1 11 = 0 ∨ R.1 = 2 ∧ I1 11 = 3 ∨ R.1 = 3 ∧ I1 11 = 4) :
    ty_W L xs d 124 17 [some (.inr (.inr (some (94, 0)))), some (.inl f), some (.inl (ty_J 0))] [] (rm_s S I1 A1) (rq_p S I A P R) := by
  have ht : 0 ≤ I1 11 ∧ I1 11 ≤ 4 := by omega
  refine ty_iload_n (pc := 17) (i := 2) (ks := []) (by decide +kernel) rfl ?_
  -- at 18: .ifCond .eq 61
  refine ty_if_eq (pc := 18) (off := 61) (t := 79) (ks := []) (by decide +kernel) (by omega) (fun hc => ?_) (fun hc => ?_)
  rotate_left
  · exact absurd rfl hc
  clear hc
  refine ty_aload_n (pc := 79) (i := 0) (ks := []) (by decide +kernel) rfl ?_
  refine ty_getI (pc := 80) (idx := 135) (ci := 13) (f := 11) (by decide +kernel) (by first | rfl | assumption) rfl (by first | exact hS.1 _ _ rfl | assumption) (fun v hv => ?_)
  simp (decide := true) only [rm_I, rm_u, rm_w, ty_sI, ty_sR, ty_sA, ty_sQ, ty_mA, ty_mQ, ↓reduceIte, false_and, and_false, true_and, and_true, and_self] at hv
  subst hv
  -- at 83: .ifCond .ne 12
  refine ty_if_ne (pc := 83) (off := 12) (t := 95) (ks := []) (by decide +kernel) (by omega) (fun hc => ?_) (fun hc => ?_)
  · exact rq_fail d hS hK hE (by omega)
  have h0 := hc
  clear hc
  refine ty_iload_n (pc := 86) (i := 2) (ks := []) (by decide +kernel) rfl ?_
  -- at 87: .ifCond .ne 8
  refine ty_if_ne (pc := 87) (off := 8) (t := 95) (ks := []) (by decide +kernel) (by omega) (fun hc => ?_) (fun hc => ?_)
  · exact absurd rfl hc
  clear hc
  refine ty_aload_n (pc := 90) (i := 0) (ks := []) (by decide +kernel) rfl ?_
  refine ty_iconst (pc := 91) (n := 2) (ks := []) (by decide +kernel) ?_
  refine ty_putI (pc := 92) (idx := 135) (ci := 13) (f := 11) (by decide +kernel) (by first | rfl | assumption) rfl rfl (by first | exact hS.1 _ _ rfl | assumption) ?_
  rw [rm_sI]
  -- at 95: .aload_n 0
  refine rq_fail d hS (I1 := rm_u I1 11 2) hK hE (.inl ⟨by omega, rfl⟩)
theorem rq_loop (d : Nat) (hS : ty_st S) (hU : dk_U S0 tau) (hs : dk_s tau s m) {I : Nat → Int} {A : Nat → Int → Int} (hrp : rp I A tau s m) {f : Int32} {R : Int × mo_M} : ∀ (k : Nat) (I1 : Nat → Int) (A1 : Nat → Int → Int) (ta rl : Int → Int) (nc ng na : Int) (M : mo_M), mo_ph M < k → R = mo_seek (dk_P S0 tau s m) k true M → mo_MI (dk_P S0 tau s m) M → rx_S I1 A1 (dk_G S0 tau) ta rl nc ng na M → rm_td (dk_G S0 tau) ta nc A1 ng (I1 29) M.2.2.2.2.2.2.1 → rx_K I A I1 A1 →
    ty_W L xs (d + 9) 124 17 [some (.inr (.inr (some (94, 0)))), some (.inl f), some (.inl (ty_J 1))] [] (rm_s S I1 A1) (rq_p S I A (dk_P S0 tau s m) R) := by
  have hW := dk_PW hU hs
  have hG := dk_PG hU hs
  intro k
  induction k using Nat.strongRecOn with
  | _ k ih =>
  intro I1 A1 ta rl nc ng na M hph hR hMI hX htd hK
  have hph0 := (mo_ph_bound hW.2.1 hMI).1
  cases k with
  | zero => omega
  | succ k =>
  have hrp1 := rp_K hrp hK
  have hE1 : rx_E I1 := rx_S.E (P := dk_P S0 tau s m) hX hMI
  have hdn := rx_dn hMI
  obtain ⟨st, came, sl, al, ar, ⟨made, bd, ch, ns, dn, an, aw⟩, todo, cs, ans⟩ := M
  have hX0 := hX
  obtain ⟨x1, x2, x3, x4, x5, x6, x7, x8, x9, x10, x11, x12⟩ := hX
  simp only at x2 x5 x6 x10 htd hdn
  cases todo with
  | nil =>
    have ht : I1 29 = -1 := htd
    rw [mo_seek_a rfl] at hR
    refine ty_iload_n (pc := 17) (i := 2) (ks := []) (by decide +kernel) rfl ?_
    -- at 18: .ifCond .eq 61
    refine ty_if_eq (pc := 18) (off := 61) (t := 79) (ks := []) (by decide +kernel) (by omega) (fun hc => ?_) (fun hc => ?_)
    · exact absurd hc (by decide)
    clear hc
    refine ty_aload_n (pc := 21) (i := 0) (ks := []) (by decide +kernel) rfl ?_
    refine ty_getI (pc := 22) (idx := 270) (ci := 13) (f := 29) (by decide +kernel) (by first | rfl | assumption) rfl (by first | exact hS.1 _ _ rfl | assumption) (fun v hv => ?_)
    simp (decide := true) only [rm_I, rm_u, rm_w, ty_sI, ty_sR, ty_sA, ty_sQ, ty_mA, ty_mQ, ↓reduceIte, false_and, and_false, true_and, and_true, and_self] at hv
    subst hv
    -- at 25: .ifCond .lt 54
    rw [ht]
    refine ty_if_lt (pc := 25) (off := 54) (t := 79) (ks := []) (by decide +kernel) (by omega) (fun hc => ?_) (fun hc => ?_)
    rotate_left
    · omega
    clear hc
    refine ty_aload_n (pc := 79) (i := 0) (ks := []) (by decide +kernel) rfl ?_
    refine ty_getI (pc := 80) (idx := 135) (ci := 13) (f := 11) (by decide +kernel) (by first | rfl | assumption) rfl (by first | exact hS.1 _ _ rfl | assumption) (fun v hv => ?_)
    simp (decide := true) only [rm_I, rm_u, rm_w, ty_sI, ty_sR, ty_sA, ty_sQ, ty_mA, ty_mQ, ↓reduceIte, false_and, and_false, true_and, and_true, and_self] at hv
    subst hv
    -- at 83: .ifCond .ne 12
    rw [x1.1]
    refine ty_if_ne (pc := 83) (off := 12) (t := 95) (ks := []) (by decide +kernel) (by omega) (fun hc => ?_) (fun hc => ?_)
    · exact absurd rfl hc
    clear hc
    refine ty_iload_n (pc := 86) (i := 2) (ks := []) (by decide +kernel) rfl ?_
    -- at 87: .ifCond .ne 8
    refine ty_if_ne (pc := 87) (off := 8) (t := 95) (ks := []) (by decide +kernel) (by omega) (fun hc => ?_) (fun hc => ?_)
    rotate_left
    · exact absurd hc (by decide)
    clear hc
    refine ty_aload_n (pc := 95) (i := 0) (ks := []) (by decide +kernel) rfl ?_
    refine ty_getI (pc := 96) (idx := 135) (ci := 13) (f := 11) (by decide +kernel) (by first | rfl | assumption) rfl (by first | exact hS.1 _ _ rfl | assumption) (fun v hv => ?_)
    simp (decide := true) only [rm_I, rm_u, rm_w, ty_sI, ty_sR, ty_sA, ty_sQ, ty_mA, ty_mQ, ↓reduceIte, false_and, and_false, true_and, and_true, and_self] at hv
    subst hv
    -- at 99: .ifCond .le 10
    rw [x1.1]
    refine ty_if_le (pc := 99) (off := 10) (t := 109) (ks := []) (by decide +kernel) (by omega) (fun hc => ?_) (fun hc => ?_)
    rotate_left
    · omega
    clear hc
    refine ty_aload_n (pc := 109) (i := 0) (ks := []) (by decide +kernel) rfl ?_
    refine ty_dup (pc := 110) (ks := []) (by decide +kernel) rfl ?_
    refine ty_getI (pc := 111) (idx := 317) (ci := 13) (f := 31) (by decide +kernel) (by first | rfl | assumption) rfl (by first | exact hS.1 _ _ rfl | assumption) (fun v hv => ?_)
    simp (decide := true) only [rm_I, rm_u, rm_w, ty_sI, ty_sR, ty_sA, ty_sQ, ty_mA, ty_mQ, ↓reduceIte, false_and, and_false, true_and, and_true, and_self] at hv
    subst hv
    refine ty_iconst (pc := 114) (n := 1) (ks := []) (by decide +kernel) ?_
    refine ty_iadd (pc := 115) (ks := []) (by decide +kernel) ?_
    refine ty_putI (pc := 116) (idx := 317) (ci := 13) (f := 31) (by decide +kernel) (by first | rfl | assumption) rfl rfl (by first | exact hS.1 _ _ rfl | assumption) ?_
    rw [rm_sI]
    refine ty_aload_n (pc := 119) (i := 0) (ks := []) (by decide +kernel) rfl ?_
    refine ty_getI (pc := 120) (idx := 222) (ci := 13) (f := 30) (by decide +kernel) (by first | rfl | assumption) rfl (by first | exact hS.1 _ _ rfl | assumption) (fun v hv => ?_)
    simp (decide := true) only [rm_I, rm_u, rm_w, ty_sI, ty_sR, ty_sA, ty_sQ, ty_mA, ty_mQ, ↓reduceIte, false_and, and_false, true_and, and_true, and_self] at hv
    subst hv
    -- at 123: .ireturn
    rw [x10, x2.1]
    refine ty_ret_i (pc := 123) (ks := []) (ty := .int) (by decide +kernel) rfl rfl ?_
    subst hR
    exact ⟨st, rfl, _, A1, rfl, hE1, .inl ⟨rfl, rfl, ⟨⟨hK.1.1, hK.1.2.1, hK.1.2.2.1, hK.1.2.2.2⟩, hK.2⟩, hMI, ta, rl, nc, ng, na, x1, x2, x3, x4, x5, x6, x7, x8, x9, rfl, x11, x12⟩⟩
  | cons g todo =>
    have htd0 := htd
    obtain ⟨t1, t2, -⟩ := htd
    rw [mo_seek_t (by simp)] at hR
    refine ty_iload_n (pc := 17) (i := 2) (ks := []) (by decide +kernel) rfl ?_
    -- at 18: .ifCond .eq 61
    refine ty_if_eq (pc := 18) (off := 61) (t := 79) (ks := []) (by decide +kernel) (by omega) (fun hc => ?_) (fun hc => ?_)
    · exact absurd hc (by decide)
    clear hc
    refine ty_aload_n (pc := 21) (i := 0) (ks := []) (by decide +kernel) rfl ?_
    refine ty_getI (pc := 22) (idx := 270) (ci := 13) (f := 29) (by decide +kernel) (by first | rfl | assumption) rfl (by first | exact hS.1 _ _ rfl | assumption) (fun v hv => ?_)
    simp (decide := true) only [rm_I, rm_u, rm_w, ty_sI, ty_sR, ty_sA, ty_sQ, ty_mA, ty_mQ, ↓reduceIte, false_and, and_false, true_and, and_true, and_self] at hv
    subst hv
    -- at 25: .ifCond .lt 54
    refine ty_if_lt (pc := 25) (off := 54) (t := 79) (ks := []) (by decide +kernel) (by omega) (fun hc => ?_) (fun hc => ?_)
    · omega
    clear hc
    refine ty_aload_n (pc := 28) (i := 0) (ks := []) (by decide +kernel) rfl ?_
    refine ty_getI (pc := 29) (idx := 135) (ci := 13) (f := 11) (by decide +kernel) (by first | rfl | assumption) rfl (by first | exact hS.1 _ _ rfl | assumption) (fun v hv => ?_)
    simp (decide := true) only [rm_I, rm_u, rm_w, ty_sI, ty_sR, ty_sA, ty_sQ, ty_mA, ty_mQ, ↓reduceIte, false_and, and_false, true_and, and_true, and_self] at hv
    subst hv
    -- at 32: .ifCond .ne 47
    rw [x1.1]
    refine ty_if_ne (pc := 32) (off := 47) (t := 79) (ks := []) (by decide +kernel) (by omega) (fun hc => ?_) (fun hc => ?_)
    · exact absurd rfl hc
    clear hc
    refine ty_aload_n (pc := 35) (i := 0) (ks := []) (by decide +kernel) rfl ?_
    -- at 36: .invokevirtual 237
    refine ty_callv (pc := 36) (idx := 237) (m := 133) (n := 1) (c := 13) (vs := []) (r := []) (by decide +kernel) rfl rfl (Nat.le_of_ble_eq_true rfl) (by first | rfl | assumption) (by first | exact hS.1 _ _ rfl | assumption) ((rm_step (L := L) (xs := xs) (I := I1) (A := A1) 0 hS x2.1 x2.2 x1.1).deeper (by omega)) ?_
    rintro _ S1 ⟨z, rfl, ⟨e5, rfl, rfl⟩ | ⟨e5, rfl, rfl⟩⟩
    · refine ty_KI ?_
      refine ty_if_ne (pc := 39) (off := 6) (t := 45) (ks := []) (by decide +kernel) (by omega) (fun hc => ?_) (fun hc => ?_)
      · exact absurd rfl hc
      clear hc
      have hr : mo_round (dk_P S0 tau s m) true (st, came, sl, al, ar, (made, bd, ch, ns, dn, an, aw), g :: todo, cs, ans) = (2, (st, came, sl, al, ar, (made, bd, ch, ns, dn, an, aw), todo, cs, ans)) := by
        refine mo_round_n (P := dk_P S0 tau s m) (ps := []) (tk := none) ?_ (by decide)
        obtain ⟨sg, l, r, b⟩ := g
        unfold mo_first
        dsimp only
        rw [if_pos (by omega)]
      rw [hr, if_neg (show ¬ (2 : Int) = 1 by decide), if_neg (show ¬ (2 : Int) = 0 by decide)] at hR
      refine ty_goto (pc := 42) (off := 37) (t := 79) (ks := []) (by decide +kernel) ?_
      refine ty_aload_n (pc := 79) (i := 0) (ks := []) (by decide +kernel) rfl ?_
      refine ty_getI (pc := 80) (idx := 135) (ci := 13) (f := 11) (by decide +kernel) (by first | rfl | assumption) rfl (by first | exact hS.1 _ _ rfl | assumption) (fun v hv => ?_)
      simp (decide := true) only [rm_I, rm_u, rm_w, ty_sI, ty_sR, ty_sA, ty_sQ, ty_mA, ty_mQ, ↓reduceIte, false_and, and_false, true_and, and_true, and_self] at hv
      subst hv
      -- at 83: .ifCond .ne 12
      refine ty_if_ne (pc := 83) (off := 12) (t := 95) (ks := []) (by decide +kernel) (by omega) (fun hc => ?_) (fun hc => ?_)
      · exact rq_fail (d + 9) hS (I1 := rm_u I1 11 3) ⟨hK.1, hK.2⟩ hE1 (.inr (.inl ⟨by rw [hR], rfl⟩))
      · exact absurd hc (by decide)
    · refine ty_KI ?_
      refine ty_if_ne (pc := 39) (off := 6) (t := 45) (ks := []) (by decide +kernel) (by omega) (fun hc => ?_) (fun hc => ?_)
      rotate_left
      · exact absurd hc (by decide)
      clear hc
      have hPf := rx_perform (L := L) (xs := xs) (S := S) d hS hU hs hrp1 hMI hX0 e5 htd0
      have hrI := mo_round_I hW hG hMI (by simp)
      refine ty_aload_n (pc := 45) (i := 0) (ks := []) (by decide +kernel) rfl ?_
      refine ty_aload_n (pc := 46) (i := 0) (ks := []) (by decide +kernel) rfl ?_
      refine ty_getI (pc := 47) (idx := 270) (ci := 13) (f := 29) (by decide +kernel) (by first | rfl | assumption) rfl (by first | exact hS.1 _ _ rfl | assumption) (fun v hv => ?_)
      simp (decide := true) only [rm_I, rm_u, rm_w, ty_sI, ty_sR, ty_sA, ty_sQ, ty_mA, ty_mQ, ↓reduceIte, false_and, and_false, true_and, and_true, and_self] at hv
      subst hv
      -- at 50: .invokevirtual 314
      refine ty_callv (pc := 50) (idx := 314) (m := 139) (n := 2) (c := 13) (vs := [_]) (r := []) (by decide +kernel) rfl rfl (Nat.le_of_ble_eq_true rfl) (by first | rfl | assumption) (by first | exact hS.1 _ _ rfl | assumption) hPf ?_
      generalize mo_round (dk_P S0 tau s m) true (st, came, sl, al, ar, (made, bd, ch, ns, dn, an, aw), g :: todo, cs, ans) = r at hR hrI
      rintro _ S4 ⟨z, rfl, hz, I4, A4, rfl, ⟨hK4, hE4⟩, q⟩
      refine ty_KI ?_
      have hK04 := hK.trans hK4
      rcases q with ⟨q1, q2⟩ | ⟨q1, q2⟩ | ⟨q1, ta', rl', q2⟩ | ⟨q1, ta', rl', nc', ng', na', q2, q3⟩
      · rw [if_neg (by omega)] at hz
        subst hz
        rw [if_neg (by omega), if_neg (by omega)] at hR
        refine ty_if_ne (pc := 53) (off := 17) (t := 70) (ks := []) (by decide +kernel) (by omega) (fun hc => ?_) (fun hc => ?_)
        · exact absurd rfl hc
        clear hc
        refine ty_aload_n (pc := 56) (i := 0) (ks := []) (by decide +kernel) rfl ?_
        refine ty_getI (pc := 57) (idx := 135) (ci := 13) (f := 11) (by decide +kernel) (by first | rfl | assumption) rfl (by first | exact hS.1 _ _ rfl | assumption) (fun v hv => ?_)
        simp (decide := true) only [rm_I, rm_u, rm_w, ty_sI, ty_sR, ty_sA, ty_sQ, ty_mA, ty_mQ, ↓reduceIte, false_and, and_false, true_and, and_true, and_self] at hv
        subst hv
        -- at 60: .ifCond .ne 14
        rw [q2]
        refine ty_if_ne (pc := 60) (off := 14) (t := 74) (ks := []) (by decide +kernel) (by omega) (fun hc => ?_) (fun hc => ?_)
        rotate_left
        · exact absurd hc (by decide)
        clear hc
        refine ty_iconst (pc := 74) (n := 0) (ks := []) (by decide +kernel) ?_
        refine ty_istore_n (pc := 75) (i := 2) (ks := []) (ls' := [_, _, _]) (by decide +kernel) rfl ?_
        refine ty_goto (pc := 76) (off := (-59)) (t := 17) (ks := []) (by decide +kernel) ?_
        -- at 17: .iload_n 2
        exact rq_off (d + 9) hS hK04 hE4 (.inr (.inl ⟨by rw [hR]; exact q1, q2⟩))
      · rw [if_neg (by omega)] at hz
        subst hz
        rw [if_neg (by omega), if_neg (by omega)] at hR
        refine ty_if_ne (pc := 53) (off := 17) (t := 70) (ks := []) (by decide +kernel) (by omega) (fun hc => ?_) (fun hc => ?_)
        · exact absurd rfl hc
        clear hc
        refine ty_aload_n (pc := 56) (i := 0) (ks := []) (by decide +kernel) rfl ?_
        refine ty_getI (pc := 57) (idx := 135) (ci := 13) (f := 11) (by decide +kernel) (by first | rfl | assumption) rfl (by first | exact hS.1 _ _ rfl | assumption) (fun v hv => ?_)
        simp (decide := true) only [rm_I, rm_u, rm_w, ty_sI, ty_sR, ty_sA, ty_sQ, ty_mA, ty_mQ, ↓reduceIte, false_and, and_false, true_and, and_true, and_self] at hv
        subst hv
        -- at 60: .ifCond .ne 14
        rw [q2]
        refine ty_if_ne (pc := 60) (off := 14) (t := 74) (ks := []) (by decide +kernel) (by omega) (fun hc => ?_) (fun hc => ?_)
        rotate_left
        · exact absurd hc (by decide)
        clear hc
        refine ty_iconst (pc := 74) (n := 0) (ks := []) (by decide +kernel) ?_
        refine ty_istore_n (pc := 75) (i := 2) (ks := []) (ls' := [_, _, _]) (by decide +kernel) rfl ?_
        refine ty_goto (pc := 76) (off := (-59)) (t := 17) (ks := []) (by decide +kernel) ?_
        -- at 17: .iload_n 2
        exact rq_off (d + 9) hS hK04 hE4 (.inr (.inr ⟨by rw [hR]; exact q1, q2⟩))
      · rw [if_neg (by omega)] at hz
        subst hz
        rw [if_neg (by omega), if_pos q1] at hR
        obtain ⟨hMIr, hphr⟩ := hrI (.inl q1)
        have hBk := rx_goback (L := L) (xs := xs) (S := S) d hS hU hs (rp_K hrp hK04) (k := k) (by omega) hMIr q2 hE4
        rw [← hR] at hBk
        have hthr := q2.1.1
        refine ty_if_ne (pc := 53) (off := 17) (t := 70) (ks := []) (by decide +kernel) (by omega) (fun hc => ?_) (fun hc => ?_)
        · exact absurd rfl hc
        clear hc
        refine ty_aload_n (pc := 56) (i := 0) (ks := []) (by decide +kernel) rfl ?_
        refine ty_getI (pc := 57) (idx := 135) (ci := 13) (f := 11) (by decide +kernel) (by first | rfl | assumption) rfl (by first | exact hS.1 _ _ rfl | assumption) (fun v hv => ?_)
        simp (decide := true) only [rm_I, rm_u, rm_w, ty_sI, ty_sR, ty_sA, ty_sQ, ty_mA, ty_mQ, ↓reduceIte, false_and, and_false, true_and, and_true, and_self] at hv
        subst hv
        -- at 60: .ifCond .ne 14
        rw [hthr]
        refine ty_if_ne (pc := 60) (off := 14) (t := 74) (ks := []) (by decide +kernel) (by omega) (fun hc => ?_) (fun hc => ?_)
        · exact absurd rfl hc
        clear hc
        refine ty_aload_n (pc := 63) (i := 0) (ks := []) (by decide +kernel) rfl ?_
        -- at 64: .invokevirtual 311
        refine ty_callv (pc := 64) (idx := 311) (m := 125) (n := 1) (c := 13) (vs := []) (r := []) (by decide +kernel) rfl rfl (Nat.le_of_ble_eq_true rfl) (by first | rfl | assumption) (by first | exact hS.1 _ _ rfl | assumption) hBk ?_
        rintro _ S5 ⟨z, rfl, I5, A5, rfl, ⟨hK5, hE5⟩, q⟩
        refine ty_KI ?_
        have hK05 := hK04.trans hK5
        rcases q with ⟨rfl, m', M', ta'', rl'', nc'', ng'', na'', w1, w2, w3, w4, w5, w6⟩ | ⟨rfl, w1, w2⟩ | ⟨rfl, w1, w2⟩
        · refine ty_if_eq (pc := 67) (off := 7) (t := 74) (ks := []) (by decide +kernel) (by omega) (fun hc => ?_) (fun hc => ?_)
          · omega
          clear hc
          refine ty_iconst (pc := 70) (n := 1) (ks := []) (by decide +kernel) ?_
          refine ty_goto (pc := 71) (off := 4) (t := 75) (ks := []) (by decide +kernel) ?_
          refine ty_istore_n (pc := 75) (i := 2) (ks := []) (ls' := [_, _, _]) (by decide +kernel) rfl ?_
          refine ty_goto (pc := 76) (off := (-59)) (t := 17) (ks := []) (by decide +kernel) ?_
          -- at 17: .iload_n 2
          exact ih m' (by omega) I5 A5 ta'' rl'' nc'' ng'' na'' M' w3 w2 w4 w5 w6 hK05
        · refine ty_if_eq (pc := 67) (off := 7) (t := 74) (ks := []) (by decide +kernel) (by omega) (fun hc => ?_) (fun hc => ?_)
          rotate_left
          · exact absurd rfl hc
          clear hc
          refine ty_iconst (pc := 74) (n := 0) (ks := []) (by decide +kernel) ?_
          refine ty_istore_n (pc := 75) (i := 2) (ks := []) (ls' := [_, _, _]) (by decide +kernel) rfl ?_
          refine ty_goto (pc := 76) (off := (-59)) (t := 17) (ks := []) (by decide +kernel) ?_
          -- at 17: .iload_n 2
          exact rq_off (d + 9) hS hK05 hE5 (.inl ⟨w1, w2⟩)
        · refine ty_if_eq (pc := 67) (off := 7) (t := 74) (ks := []) (by decide +kernel) (by omega) (fun hc => ?_) (fun hc => ?_)
          rotate_left
          · exact absurd rfl hc
          clear hc
          refine ty_iconst (pc := 74) (n := 0) (ks := []) (by decide +kernel) ?_
          refine ty_istore_n (pc := 75) (i := 2) (ks := []) (ls' := [_, _, _]) (by decide +kernel) rfl ?_
          refine ty_goto (pc := 76) (off := (-59)) (t := 17) (ks := []) (by decide +kernel) ?_
          -- at 17: .iload_n 2
          exact rq_off (d + 9) hS hK05 hE5 (.inr (.inl ⟨w1, w2⟩))
      · rw [if_pos q1] at hz
        subst hz
        rw [if_pos q1] at hR
        obtain ⟨hMIr, hphr⟩ := hrI (.inr q1)
        refine ty_if_ne (pc := 53) (off := 17) (t := 70) (ks := []) (by decide +kernel) (by omega) (fun hc => ?_) (fun hc => ?_)
        rotate_left
        · exact absurd hc (by decide)
        clear hc
        refine ty_iconst (pc := 70) (n := 1) (ks := []) (by decide +kernel) ?_
        refine ty_goto (pc := 71) (off := 4) (t := 75) (ks := []) (by decide +kernel) ?_
        refine ty_istore_n (pc := 75) (i := 2) (ks := []) (ls' := [_, _, _]) (by decide +kernel) rfl ?_
        refine ty_goto (pc := 76) (off := (-59)) (t := 17) (ks := []) (by decide +kernel) ?_
        -- at 17: .iload_n 2
        exact ih k (by omega) I4 A4 ta' rl' nc' ng' na' r.2 (by omega) hR hMIr q2 q3 hK04
theorem rx_seek0 (d : Nat) (hS : ty_st S) (hU : dk_U S0 tau) (hs : dk_s tau s m) {I : Nat → Int} {A : Nat → Int → Int} (hrp : rp I A tau s m) {ta rl : Int → Int} {nc ng na : Int} {M : mo_M} (hMI : mo_MI (dk_P S0 tau s m) M) (hX : rx_S I A (dk_G S0 tau) ta rl nc ng na M) (htd : rm_td (dk_G S0 tau) ta nc A ng (I 29) M.2.2.2.2.2.2.1) :
    ty_C L xs (d + 10) 124 [.inr (.inr (some (94, 0))), .inl (ty_J 0)] (rm_s S I A) (rq_p S I A (dk_P S0 tau s m) (mo_seek (dk_P S0 tau s m) 1000000 true M)) := by
  have hb := mo_ph_bound (dk_PW hU hs).2.1 hMI
  refine ty_enter (ml := 3) (ls := [_, _, _]) rfl rfl (Nat.le_of_ble_eq_true rfl) ?_
  refine ty_iload_n (pc := 0) (i := 1) (ks := []) (by decide +kernel) rfl ?_
  -- at 1: .ifCond .eq 10
  refine ty_if_eq (pc := 1) (off := 10) (t := 11) (ks := []) (by decide +kernel) (by omega) (fun hc => ?_) (fun hc => ?_)
  rotate_left
  · exact absurd rfl hc
  clear hc
  refine ty_iconst (pc := 11) (n := 1) (ks := []) (by decide +kernel) ?_
  refine ty_goto (pc := 12) (off := 4) (t := 16) (ks := []) (by decide +kernel) ?_
  refine ty_istore_n (pc := 16) (i := 2) (ks := []) (ls' := [_, _, _]) (by decide +kernel) rfl ?_
  -- at 17: .iload_n 2
  exact rq_loop d hS hU hs hrp 1000000 I A ta rl nc ng na M (by omega) rfl hMI hX htd .refl
theorem rx_seek1 (d : Nat) (hS : ty_st S) (hU : dk_U S0 tau) (hs : dk_s tau s m) {I : Nat → Int} {A : Nat → Int → Int} (hrp : rp I A tau s m) {ta rl : Int → Int} {nc ng na : Int} {M : mo_M} (hMI : mo_MI (dk_P S0 tau s m) M) (hX : rx_S I A (dk_G S0 tau) ta rl nc ng na M) :
    ty_C L xs (d + 10) 124 [.inr (.inr (some (94, 0))), .inl (ty_J 1)] (rm_s S I A) (rq_p S I A (dk_P S0 tau s m) (mo_seek (dk_P S0 tau s m) 1000000 false M)) := by
  have hb := mo_ph_bound (dk_PW hU hs).2.1 hMI
  have hBk := rx_goback (L := L) (xs := xs) (S := S) d hS hU hs hrp (k := 1000000) (by omega) hMI hX.B (rx_S.E (P := dk_P S0 tau s m) hX hMI)
  refine ty_enter (ml := 3) (ls := [_, _, _]) rfl rfl (Nat.le_of_ble_eq_true rfl) ?_
  refine ty_iload_n (pc := 0) (i := 1) (ks := []) (by decide +kernel) rfl ?_
  -- at 1: .ifCond .eq 10
  refine ty_if_eq (pc := 1) (off := 10) (t := 11) (ks := []) (by decide +kernel) (by omega) (fun hc => ?_) (fun hc => ?_)
  · exact absurd hc (by decide)
  clear hc
  refine ty_aload_n (pc := 4) (i := 0) (ks := []) (by decide +kernel) rfl ?_
  -- at 5: .invokevirtual 311
  refine ty_callv (pc := 5) (idx := 311) (m := 125) (n := 1) (c := 13) (vs := []) (r := []) (by decide +kernel) rfl rfl (Nat.le_of_ble_eq_true rfl) (by first | rfl | assumption) (by first | exact hS.1 _ _ rfl | assumption) hBk ?_
  rintro _ S5 ⟨z, rfl, I5, A5, rfl, ⟨hK5, hE5⟩, q⟩
  refine ty_KI ?_
  rcases q with ⟨rfl, m', M', ta'', rl'', nc'', ng'', na'', w1, w2, w3, w4, w5, w6⟩ | ⟨rfl, w1, w2⟩ | ⟨rfl, w1, w2⟩
  · refine ty_if_eq (pc := 8) (off := 7) (t := 15) (ks := []) (by decide +kernel) (by omega) (fun hc => ?_) (fun hc => ?_)
    · omega
    clear hc
    refine ty_iconst (pc := 11) (n := 1) (ks := []) (by decide +kernel) ?_
    refine ty_goto (pc := 12) (off := 4) (t := 16) (ks := []) (by decide +kernel) ?_
    refine ty_istore_n (pc := 16) (i := 2) (ks := []) (ls' := [_, _, _]) (by decide +kernel) rfl ?_
    -- at 17: .iload_n 2
    exact rq_loop d hS hU hs hrp m' I5 A5 ta'' rl'' nc'' ng'' na'' M' w3 w2 w4 w5 w6 hK5
  · refine ty_if_eq (pc := 8) (off := 7) (t := 15) (ks := []) (by decide +kernel) (by omega) (fun hc => ?_) (fun hc => ?_)
    rotate_left
    · exact absurd rfl hc
    clear hc
    refine ty_iconst (pc := 15) (n := 0) (ks := []) (by decide +kernel) ?_
    refine ty_istore_n (pc := 16) (i := 2) (ks := []) (ls' := [_, _, _]) (by decide +kernel) rfl ?_
    -- at 17: .iload_n 2
    exact rq_off (d + 9) hS hK5 hE5 (.inl ⟨w1, w2⟩)
  · refine ty_if_eq (pc := 8) (off := 7) (t := 15) (ks := []) (by decide +kernel) (by omega) (fun hc => ?_) (fun hc => ?_)
    rotate_left
    · exact absurd rfl hc
    clear hc
    refine ty_iconst (pc := 15) (n := 0) (ks := []) (by decide +kernel) ?_
    refine ty_istore_n (pc := 16) (i := 2) (ks := []) (ls' := [_, _, _]) (by decide +kernel) rfl ?_
    -- at 17: .iload_n 2
    exact rq_off (d + 9) hS hK5 hE5 (.inr (.inl ⟨w1, w2⟩))
end RXQ
