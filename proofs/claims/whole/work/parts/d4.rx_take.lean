/-! The reference takes a clause. -/
theorem rm_t_cell {G : mo_G} (hw : mo_wf G) {made : Int} {ta : Int → Int} {nc x t : Int} (h : rm_t G ta nc x t) (hx : 0 ≤ x) (ht : mo_ok G made t) (hta : ∀ c, 0 ≤ c → c < nc → 0 ≤ ta c) : x < nc ∧ ta x = t := by
  rcases h with z | ⟨z1, z2, z3⟩
  · omega
  · refine ⟨z2, ?_⟩
    have := hta x z1 z2
    unfold rm_nf at z3
    by_cases e : 65 ≤ mo_l G t ∧ mo_l G t ≤ 90
    · have hv := mo_ok_var hw ht e
      rw [if_pos e] at z3
      omega
    · rw [if_neg e] at z3
      exact z3
theorem bg_trans {G : mo_G} {made bs : Int} {t : List Int} {mp : Int → Int} {nc0 ng0 nc1 ng1 nc2 ng2 : Int} {I0 I1 I2 : Nat → Int} {A0 A1 A2 : Nat → Int → Int} {ta0 ta1 ta2 : Int → Int} (hw : mo_wf G) (h0 : 0 ≤ nc0 ∧ 0 ≤ ng0) (h : bg_inv G made bs t mp nc0 ng0 I0 A0 ta0 nc1 ng1 I1 A1 ta1) (g : bg_inv G made bs t mp nc1 ng1 I1 A1 ta1 nc2 ng2 I2 A2 ta2) : bg_inv G made bs t mp nc0 ng0 I0 A0 ta0 nc2 ng2 I2 A2 ta2 := by
  obtain ⟨a1, a2, a3, a4, a5, a6, a7, a8, a9, a10⟩ := h
  obtain ⟨b1, b2, b3, b4, b5, b6, b7, b8, b9, b10⟩ := g
  refine ⟨b1, b2, ⟨b3.1, by omega⟩, ⟨b4.1, by omega⟩, fun k h1 h2 h3 => (b5 k h1 h2 h3).trans (a5 k h1 h2 h3), fun q h1 h2 h3 h4 h5 h6 h7 h8 h9 => (b6 q h1 h2 h3 h4 h5 h6 h7 h8 h9).trans (a6 q h1 h2 h3 h4 h5 h6 h7 h8 h9), fun c c0 c1 => ?_, fun j j0 j1 => (b8 j j0 (by omega)).trans (a8 j j0 j1), fun g g0 g1 => ?_, fun c c0 c1 => ?_⟩
  · obtain ⟨p1, p2, p3⟩ := a7 c c0 c1
    obtain ⟨q1, q2, q3⟩ := b7 c c0 (by omega)
    exact ⟨q1.trans p1, q2.trans p2, q3.trans p3⟩
  · obtain ⟨p1, p2, p3, p4, p5⟩ := a9 g g0 g1
    obtain ⟨q1, q2, q3, q4, q5⟩ := b9 g g0 (by omega)
    exact ⟨q1.trans p1, q2.trans p2, q3.trans p3, q4.trans p4, q5.trans p5⟩
  · by_cases e : c < nc1
    · have hcell := a10 c c0 e
      exact rm_cell_keep hcell ⟨by omega, e⟩ b3.2 (fun c c0 c1 => (b7 c c0 c1).2.1) (b7 c (by omega) e).1 (b7 c (by omega) e).2.2 (fun k k0 k1 => b8 _ (by omega) (by omega)) (hw _ hcell.1.2.1).2.2.1.2
    · exact b10 c (by omega) c1
section RXT
variable {L : Nat} {xs : Nat → Int32} {S S0 : ty_S} {tau : dk_T} {s : Nat → Nat} {m : Nat}
/-- the arguments of head and call are put on the stack -/
theorem rt_args (d : Nat) (hS : ty_st S) {G : mo_G} {ta : Int → Int} {nc : Int} {x h X H : Int} (hx : 0 ≤ x ∧ x < 24000) (hh : 0 ≤ h ∧ h < 24000) {Q : ai_O → ty_S → Prop} {c behind bar rest : Int32} {A0 : Nat → Int → Int} {N : Nat} (hN : N ≤ 3) (hax : ∀ k : Nat, k < N → rm_t G ta nc (A0 62 (x * 3 + k)) (mo_g G X k)) (hah : ∀ k : Nat, k < N → rm_t G ta nc (A0 62 (h * 3 + k)) (mo_g G H k)) : ∀ (k : Nat) (I : Nat → Int) (A : Nat → Int → Int) (ps : List (Int × Int)), k ≤ N → ps.length + k ≤ 10 → (∀ q, q ≠ 78 → q ≠ 79 → A q = A0 q) → rm_stk G ta nc (A 78) (A 79) (I 36) ps →
    (∀ I' A' (x7 : Int32), (∀ q, q ≠ 36 → I' q = I q) → (∀ q, q ≠ 78 → q ≠ 79 → A' q = A0 q) → rm_stk G ta nc (A' 78) (A' 79) (I' 36) (mo_al G H X k ps) → ty_W L xs (d + 1) 129 122 [some (.inr (.inr (some (94, 0)))), some (.inl c), some (.inl (ty_J x)), some (.inl behind), some (.inl bar), some (.inl (ty_J h)), some (.inl rest), some (.inl x7)] [] (rm_s S I' A') Q) →
    ty_W L xs (d + 1) 129 84 [some (.inr (.inr (some (94, 0)))), some (.inl c), some (.inl (ty_J x)), some (.inl behind), some (.inl bar), some (.inl (ty_J h)), some (.inl rest), some (.inl (ty_J ((k : Int) - 1)))] [] (rm_s S I A) Q := by
  intro k
  induction k with
  | zero =>
    intro I A ps hk hlen hA hstk cont
    refine ty_iload (pc := 84) (i := 7) (ks := []) (by decide +kernel) rfl ?_
    -- at 86: .ifCond .lt 36
    refine ty_if_lt (pc := 86) (off := 36) (t := 122) (ks := []) (by decide +kernel) (by omega) (fun hc => ?_) (fun hc => ?_)
    · exact cont I A _ (fun _ _ => rfl) hA hstk
    · omega
  | succ k ih =>
    intro I A ps hk hlen hA hstk cont
    have hpl := rm_stk_len hstk
    have q1 := hah k (by omega)
    have q2 := hax k (by omega)
    have eA : A 62 = A0 62 := hA _ (by decide) (by decide)
    rw [show ((k + 1 : Nat) : Int) - 1 = (k : Int) by omega]
    refine ty_iload (pc := 84) (i := 7) (ks := []) (by decide +kernel) rfl ?_
    -- at 86: .ifCond .lt 36
    refine ty_if_lt (pc := 86) (off := 36) (t := 122) (ks := []) (by decide +kernel) (by omega) (fun hc => ?_) (fun hc => ?_)
    · omega
    clear hc
    refine ty_aload_n (pc := 89) (i := 0) (ks := []) (by decide +kernel) rfl ?_
    refine ty_aload_n (pc := 90) (i := 0) (ks := []) (by decide +kernel) rfl ?_
    refine ty_getS (b := (62, 0)) (pc := 91) (idx := 42) (ci := 13) (f := 16) (by decide +kernel) (by first | rfl | assumption) rfl (by first | exact hS.1 _ _ rfl | assumption) (by first | exact hS.2.2 _ _ _ _ rfl | assumption) ?_
    refine ty_iload (pc := 94) (i := 5) (ks := []) (by decide +kernel) rfl ?_
    refine ty_iconst (pc := 96) (n := 3) (ks := []) (by decide +kernel) ?_
    refine ty_imul (pc := 97) (ks := []) (by decide +kernel) ?_
    refine ty_iload (pc := 98) (i := 7) (ks := []) (by decide +kernel) rfl ?_
    refine ty_iadd (pc := 100) (ks := []) (by decide +kernel) ?_
    refine ty_iaload (pc := 101) (ks := []) (by decide +kernel) (by first | rfl | assumption) (by rfl) (by first | exact hS.1 _ _ rfl | assumption) (by first | exact hS.2.1 _ _ _ rfl | assumption) (by omega) (fun v hv => ?_)
    rw [rm_A (by decide)] at hv
    first | (simp (decide := true) only [rm_w, ty_sI, ty_sR, ty_sA, ty_sQ, ty_mA, ty_mQ, ↓reduceIte, false_and, and_false, true_and, and_true, and_self] at hv) | skip
    subst hv
    refine ty_aload_n (pc := 102) (i := 0) (ks := []) (by decide +kernel) rfl ?_
    refine ty_getS (b := (62, 0)) (pc := 103) (idx := 42) (ci := 13) (f := 16) (by decide +kernel) (by first | rfl | assumption) rfl (by first | exact hS.1 _ _ rfl | assumption) (by first | exact hS.2.2 _ _ _ _ rfl | assumption) ?_
    refine ty_iload_n (pc := 106) (i := 2) (ks := []) (by decide +kernel) rfl ?_
    refine ty_iconst (pc := 107) (n := 3) (ks := []) (by decide +kernel) ?_
    refine ty_imul (pc := 108) (ks := []) (by decide +kernel) ?_
    refine ty_iload (pc := 109) (i := 7) (ks := []) (by decide +kernel) rfl ?_
    refine ty_iadd (pc := 111) (ks := []) (by decide +kernel) ?_
    refine ty_iaload (pc := 112) (ks := []) (by decide +kernel) (by first | rfl | assumption) (by rfl) (by first | exact hS.1 _ _ rfl | assumption) (by first | exact hS.2.1 _ _ _ rfl | assumption) (by omega) (fun v hv => ?_)
    rw [rm_A (by decide)] at hv
    first | (simp (decide := true) only [rm_w, ty_sI, ty_sR, ty_sA, ty_sQ, ty_mA, ty_mQ, ↓reduceIte, false_and, and_false, true_and, and_true, and_self] at hv) | skip
    subst hv
    -- at 113: .invokevirtual 253
    refine ty_callv (pc := 113) (idx := 253) (m := 130) (n := 3) (c := 13) (vs := [_, _]) (r := []) (by decide +kernel) rfl rfl (Nat.le_of_ble_eq_true rfl) (by first | rfl | assumption) (by first | exact hS.1 _ _ rfl | assumption) (rm_pair (L := L) (xs := xs) (I := I) (A := A) _ hS rfl ⟨by omega, by omega⟩) ?_
    rintro _ S1 ⟨rfl, rfl⟩
    refine ty_KV ?_
    refine ty_iinc (pc := 116) (i := 7) (n := (-1)) (ks := []) (ls' := [_, _, _, _, _, _, _, _]) (by decide +kernel) rfl rfl ?_
    refine ty_goto (pc := 119) (off := (-35)) (t := 84) (ks := []) (by decide +kernel) ?_
    -- at 84: .iload 7
    rw [show (k : Int) + -1 = (k : Int) - 1 by omega, eA]
    refine ih _ _ ((mo_g G H k, mo_g G X k) :: ps) (by omega) (by simp only [List.length_cons]; omega) (fun q h1 h2 => ?_) ?_ (fun I' A' x7 h1 h2 h3 => cont I' A' x7 (fun q hq => (h1 q hq).trans (if_neg hq)) h2 h3)
    · rw [← hA q h1 h2]
      funext j
      simp [rm_w, h1, h2]
    · have := rm_stk_put (p := (mo_g G H k, mo_g G X k)) hstk q1 q2
      have w1 : (rm_w (rm_w A 78 (I 36) (A0 62 (h * 3 + k))) 79 (I 36) (A0 62 (x * 3 + k))) 78 = mo_up (A 78) (I 36) (A0 62 (h * 3 + k)) := by
        funext j
        simp [rm_w, mo_up]
      have w2 : (rm_w (rm_w A 78 (I 36) (A0 62 (h * 3 + k))) 79 (I 36) (A0 62 (x * 3 + k))) 79 = mo_up (A 79) (I 36) (A0 62 (x * 3 + k)) := by
        funext j
        simp [rm_w, mo_up]
      rw [w1, w2]
      exact this
theorem rx_take (d : Nat) (hS : ty_st S) (hU : dk_U S0 tau) (hs : dk_s tau s m) {I : Nat → Int} {A : Nat → Int → Int} (hrp : rp I A tau s m) {ta rl : Int → Int} {nc ng na : Int} {st came : Int} {sl al ar : Int → Int} {made : Int} {bd : Int → Int} {ch : Int → List Int} {ns : Int} {dn : List Int} {an : Int} {aw : Int → Bool} {todo : List mo_Go} {cs : List mo_Ch} {ans : Int} (hMI : mo_MI (dk_P S0 tau s m) (st, came, sl, al, ar, (made, bd, ch, ns, dn, an, aw), todo, cs, ans)) (hX : rx_S I A (dk_G S0 tau) ta rl nc ng na (st, came, sl, al, ar, (made, bd, ch, ns, dn, an, aw), todo, cs, ans)) (hnc : nc ≤ 24 * st) (hng : ng ≤ 24 * st + dn.length) (hmd : made ≤ 24 * st) {t i bar x behind : Int} (hi : 0 ≤ i ∧ i < m) (ht : mo_ok (dk_G S0 tau) made t) (hfit : mo_fits (dk_P S0 tau s m) t i = true) (hbar : 0 ≤ bar ∧ bar ≤ 500) (hx0 : 0 ≤ x) (hxt : rm_t (dk_G S0 tau) ta nc x t) (htd : rm_td (dk_G S0 tau) ta nc A ng behind todo) :
    ty_C L xs (d + 7) 129 [.inr (.inr (some (94, 0))), .inl (ty_J i), .inl (ty_J x), .inl (ty_J behind), .inl (ty_J bar)] (rm_s S I A) (rx_p S I A (dk_P S0 tau s m) (mo_fin (dk_P S0 tau s m) (mo_ta (dk_P S0 tau s m) (st, came, sl, al, ar, (made, bd, ch, ns, dn, an, aw), todo, cs, ans) t i bar).2.1 (mo_ta (dk_P S0 tau s m) (st, came, sl, al, ar, (made, bd, ch, ns, dn, an, aw), todo, cs, ans) t i bar).2.2.1 (mo_bdy (dk_P S0 tau s m) (mo_ta (dk_P S0 tau s m) (st, came, sl, al, ar, (made, bd, ch, ns, dn, an, aw), todo, cs, ans) t i bar).2.2.2) an)) := by
  have hW := dk_PW hU hs
  have hG := dk_PG hU hs
  have hw : mo_wf (dk_G S0 tau) := dk_wf hU
  have h1I := mo_ta_I hW hMI hi ht hfit hbar hmd
  obtain ⟨tx, t1, t2, t3, t4, t5, t6, t7⟩ := rp_text hU hs (i := i.toNat) (by omega)
  obtain ⟨r1, r2⟩ := hrp.2 i.toNat (by omega) tx t1
  rw [show ((i.toNat : Nat) : Int) = i by omega] at r1 r2
  obtain ⟨p1, p2, ⟨as, N, p3, p4⟩, p5, p6, p7⟩ := pt_c_head t5
  have hnb : dk_nb tau ((s i.toNat : Nat) : Int) = dk_nv tx := by
    unfold dk_nb
    rw [show (((s i.toNat : Nat) : Int)).toNat = s i.toNat by omega, t1]
  have hnv := dk_nv_r (hU _ tx t1).1
  have hgs : dk_gs tau (s i.toNat) = (pt_c (dk_f tx)).2.2.1.map (pt_abs (s i.toNat)) := by
    unfold dk_gs
    rw [t1]
    show List.map (pt_abs (s i.toNat)) (dk_r (s i.toNat) tx).2.2.1 = _
    rw [t7]
  -- what mo_ta is here
  have eta : mo_ta (dk_P S0 tau s m) (st, came, sl, al, ar, (made, bd, ch, ns, dn, an, aw), todo, cs, ans) t i bar = (1, (st, came + dk_nv tx, sl, al, ar, (made + dk_nv tx, mo_nb bd made (made + dk_nv tx), mo_nc ch made (made + dk_nv tx), ns, dn, an, aw), todo, cs, ans), mo_al (dk_G S0 tau) (dk_Tt made (s i.toNat) 0) t (mo_a (dk_G S0 tau) (dk_Tt made (s i.toNat) 0)).toNat [], some (i, made, bar)) := by
    have e1 : (dk_P S0 tau s m).2.2.2.1 i = dk_nv tx := hnb
    have e2 : made * 624 + (dk_P S0 tau s m).2.2.1 i = dk_Tt made (s i.toNat) 0 := by
      show made * 624 + 48 * ((s i.toNat : Nat) : Int) = made * 624 + (48 * ((s i.toNat : Nat) : Int) + 0)
      omega
    unfold mo_ta
    dsimp only
    rw [e1, e2]
    rfl
  rw [eta] at h1I ⊢
  dsimp only at h1I ⊢
  obtain ⟨j1, j2, j3, j4⟩ := h1I
  dsimp only at j1 j2 j3 j4
  have hbody : mo_bdy (dk_P S0 tau s m) (some (i, made, bar)) = mo_bd ((pt_c (dk_f tx)).2.2.1.map (pt_abs (s i.toNat))) made bar := by
    show mo_bd (dk_gs tau (s i.toNat)) made bar = _
    rw [hgs]
  have hbok := mo_bdy_ok hW hG j4
  rw [hbody] at hbok ⊢
  have hMI0 := hMI
  obtain ⟨b1, b2, ⟨a1, a2, a3, a4, a5, a6, a7, a8⟩, b4⟩ := hMI
  simp only at b1 b2 a1 a2 a3 a4 a5 a6 a7 a8 b4
  have hX0 := hX
  obtain ⟨x1, x2, x3, x4, x5, x6, x7, x8, x9, x10, ⟨v1, v2, v3, v4, v5⟩, x12⟩ := hX
  simp only at x2 x3 x4 x5 x6 x7 x8 x9 x10 x12 v1 v2 v3 v4 v5
  have hta : ∀ c, 0 ≤ c → c < nc → 0 ≤ ta c := fun c c0 c1 => (v1 c c0 c1).1.1
  obtain ⟨hxn, hxta⟩ := rm_t_cell hw hxt hx0 ht hta
  have hm := hs.1
  have htd0 := htd
  clear htd
  have hsrc : rm_src (rm_u (rm_u I 12 (i * 48)) 13 (i * 48 + A 55 i)) A (i * 48) tx := ⟨by show i * 48 + A 55 i = _; rw [r1], t3, t4, ⟨by omega, by omega⟩, fun p q0 q1 => by rw [show i * 48 + p = 48 * i + p by omega]; exact r2 p q0 q1⟩
  have hNum := rm_number (L := L) (xs := xs) (S := S) (d + 4) hS hsrc (v0 := made) rfl x4.1 ⟨a1, by omega⟩
  refine ty_enter (ml := 8) (ls := [_, _, _, _, _, _, _, _]) rfl rfl (Nat.le_of_ble_eq_true rfl) ?_
  refine ty_aload_n (pc := 0) (i := 0) (ks := []) (by decide +kernel) rfl ?_
  refine ty_iload_n (pc := 1) (i := 1) (ks := []) (by decide +kernel) rfl ?_
  refine ty_bipush (pc := 2) (n := 48) (ks := []) (by decide +kernel) (by omega) ?_
  refine ty_imul (pc := 4) (ks := []) (by decide +kernel) ?_
  refine ty_putI (pc := 5) (idx := 184) (ci := 13) (f := 12) (by decide +kernel) (by first | rfl | assumption) rfl rfl (by first | exact hS.1 _ _ rfl | assumption) ?_
  rw [rm_sI]
  refine ty_aload_n (pc := 8) (i := 0) (ks := []) (by decide +kernel) rfl ?_
  refine ty_aload_n (pc := 9) (i := 0) (ks := []) (by decide +kernel) rfl ?_
  refine ty_getI (pc := 10) (idx := 184) (ci := 13) (f := 12) (by decide +kernel) (by first | rfl | assumption) rfl (by first | exact hS.1 _ _ rfl | assumption) (fun v hv => ?_)
  simp (decide := true) only [rm_I, rm_u, rm_w, ty_sI, ty_sR, ty_sA, ty_sQ, ty_mA, ty_mQ, ↓reduceIte, false_and, and_false, true_and, and_true, and_self] at hv
  subst hv
  refine ty_aload_n (pc := 13) (i := 0) (ks := []) (by decide +kernel) rfl ?_
  refine ty_getS (b := (55, 0)) (pc := 14) (idx := 16) (ci := 13) (f := 2) (by decide +kernel) (by first | rfl | assumption) rfl (by first | exact hS.1 _ _ rfl | assumption) (by first | exact hS.2.2 _ _ _ _ rfl | assumption) ?_
  refine ty_iload_n (pc := 17) (i := 1) (ks := []) (by decide +kernel) rfl ?_
  refine ty_iaload (pc := 18) (ks := []) (by decide +kernel) (by first | rfl | assumption) (by rfl) (by first | exact hS.1 _ _ rfl | assumption) (by first | exact hS.2.1 _ _ _ rfl | assumption) (by omega) (fun v hv => ?_)
  rw [rm_A (by decide)] at hv
  first | (simp (decide := true) only [rm_w, ty_sI, ty_sR, ty_sA, ty_sQ, ty_mA, ty_mQ, ↓reduceIte, false_and, and_false, true_and, and_true, and_self] at hv) | skip
  subst hv
  refine ty_iadd (pc := 19) (ks := []) (by decide +kernel) ?_
  refine ty_putI (pc := 20) (idx := 181) (ci := 13) (f := 13) (by decide +kernel) (by first | rfl | assumption) rfl rfl (by first | exact hS.1 _ _ rfl | assumption) ?_
  rw [rm_sI]
  refine ty_aload_n (pc := 23) (i := 0) (ks := []) (by decide +kernel) rfl ?_
  -- at 24: .invokevirtual 277
  refine ty_callv (pc := 24) (idx := 277) (m := 116) (n := 1) (c := 13) (vs := []) (r := []) (by decide +kernel) rfl rfl (Nat.le_of_ble_eq_true rfl) (by first | rfl | assumption) (by first | exact hS.1 _ _ rfl | assumption) hNum ?_
  rintro _ S1 ⟨rfl, mp, rfl, hmp⟩
  refine ty_KV ?_
  have hT := dk_bt_T hU t1 a1 hmp
  rw [t7] at hT
  -- the state behind it
  generalize hI2 : rm_u (rm_u (rm_u (rm_u I 12 (i * 48)) 13 (i * 48 + A 55 i)) 26 (made + dk_nv tx)) 27 _ = I2
  generalize hA2 : rm_bn A made (dk_nv tx) mp = A2
  have i2 : ∀ k, k ≠ 26 → k ≠ 27 → k ≠ 12 → k ≠ 13 → I2 k = I k := fun k h1 h2 h3 h4 => by
    rw [← hI2]
    exact (if_neg h2).trans ((if_neg h1).trans ((if_neg h4).trans (if_neg h3)))
  have i2v : I2 26 = made + dk_nv tx := by rw [← hI2]; rfl
  have i2b : I2 27 = came + dk_nv tx := by
    rw [← hI2]
    show I 27 + dk_nv tx = _
    rw [x4.2]
  have i2s : I2 12 = i * 48 + 0 := by rw [← hI2]; show i * 48 = i * 48 + 0; omega
  have i2e : I2 13 = i * 48 + A 55 i := by rw [← hI2]; rfl
  have A2b : A2 63 = cm_f (A 63) made (made + dk_nv tx) 2147483647 := by rw [← hA2]; rfl
  have A2h : A2 64 = cm_f (A 64) made (made + dk_nv tx) (-1) := by rw [← hA2]; rfl
  have A2t : A2 65 = cm_f (A 65) made (made + dk_nv tx) (-1) := by rw [← hA2]; rfl
  have A2m : A2 58 = mp := by rw [← hA2]; rfl
  have A2o : ∀ q, q ≠ 63 → q ≠ 64 → q ≠ 65 → q ≠ 58 → A2 q = A q := fun q h1 h2 h3 h4 => by
    rw [← hA2]
    unfold rm_bn rm_a
    rw [if_neg h4, if_neg h3, if_neg h2, if_neg h1]
  clear hI2 hA2
  have hsrc2 : rm_src I2 A2 (i * 48) tx := rm_src_e hsrc i2e (A2o _ (by decide) (by decide) (by decide) (by decide))
  have hn : ∀ p, (tx.length : Int) ≤ p → dk_f tx p = 0 := fun p hp => dk_f_n hp
  obtain ⟨s1, s2, s3⟩ := pt_t_spec hn 5 0 (by omega) (by omega)
  obtain ⟨s4, s5, as', s6⟩ := s3 p2
  have hsub1 : ∀ q as, (q, as) ∈ (pt_t (dk_f tx) 5 0).2.2 → (q, as) ∈ (pt_c (dk_f tx)).2.2.2 := by
    intro q as' hm'
    rcases p5 with z | z
    · rw [(p6 z).2]; exact hm'
    · rw [(p7 z).2.2]; exact List.mem_append.mpr (.inl hm')
  have hmp2 : ∀ u, 0 ≤ u → u < 26 → A2 58 u = mp u := fun u _ _ => by rw [A2m]
  have hB := rm_build (L := L) (xs := xs) (S := S) (d + 4) hS (ta := ta) hw (show made + dk_nv tx ≤ 100000 by omega) hT hsrc2 hmp2 (Int.le_refl 0) (by omega) i2s ((i2 _ (by decide) (by decide) (by decide) (by decide)).trans x5.1) x5.2.1 (by omega) p2 hsub1 (by omega)
  have hinv0 : bg_inv (dk_G S0 tau) (made + dk_nv tx) (i * 48) tx mp nc ng I2 A2 ta nc ng I2 A2 ta := ⟨hsrc2, hmp2, ⟨(i2 _ (by decide) (by decide) (by decide) (by decide)).trans x5.1, Int.le_refl _⟩, ⟨(i2 _ (by decide) (by decide) (by decide) (by decide)).trans x6.1, Int.le_refl _⟩, fun _ _ _ _ => rfl, fun _ _ _ _ _ _ _ _ _ _ => rfl, fun _ _ _ => ⟨rfl, rfl, rfl⟩, fun _ _ _ => rfl, fun _ _ _ => ⟨rfl, rfl, rfl, rfl, rfl⟩, fun c c0 c1 => by omega⟩
  refine ty_aload_n (pc := 27) (i := 0) (ks := []) (by decide +kernel) rfl ?_
  -- at 28: .invokevirtual 216
  refine ty_callv (pc := 28) (idx := 216) (m := 121) (n := 1) (c := 13) (vs := []) (r := []) (by decide +kernel) rfl rfl (Nat.le_of_ble_eq_true rfl) (by first | rfl | assumption) (by first | exact hS.1 _ _ rfl | assumption) hB ?_
  rintro _ S2 ⟨hd, rfl, I3, A3, ta3, nc3, rfl, hpost⟩
  refine ty_KI ?_
  obtain ⟨hinv3, -, -⟩ := bg_term hw hinv0 ⟨x5.2.1, x6.2.1⟩ hpost
  obtain ⟨-, -, ⟨c3, c4, c5, c6⟩, -, -, -, -, c11, c12⟩ := hpost
  obtain ⟨u1, u2, u3, u4, -⟩ := hT 0 as p4
  have hd0 : 0 ≤ hd := rm_t_pos c11 u1 (by rw [u2]; omega)
  -- the goals, if any
  have rest : ∀ (I4 : Nat → Int) (A4 : Nat → Int → Int) (ta4 : Int → Int) (nc4 rst : Int) (x7 : Option ai_V), bg_inv (dk_G S0 tau) (made + dk_nv tx) (i * 48) tx mp nc ng I2 A2 ta nc4 (ng + ((pt_c (dk_f tx)).2.2.1.map (bg_f (dk_Tt made (s i.toNat)) bar)).length) I4 A4 ta4 → bg_seg (dk_G S0 tau) ta4 nc4 A4 ng behind ((pt_c (dk_f tx)).2.2.1.map (bg_f (dk_Tt made (s i.toNat)) bar)) → rst = (if (pt_c (dk_f tx)).2.2.1.map (bg_f (dk_Tt made (s i.toNat)) bar) = [] then behind else ng) → 2 * (nc4 - nc) ≤ tx.length + 1 → nc3 ≤ nc4 → (∀ c, 0 ≤ c → c < nc3 → ta4 c = ta3 c) →
      ty_W L xs (d + 6) 129 68 [some (.inr (.inr (some (94, 0)))), some (.inl (ty_J i)), some (.inl (ty_J x)), some (.inl (ty_J behind)), some (.inl (ty_J bar)), some (.inl (ty_J hd)), some (.inl (ty_J rst)), x7] [] (rm_s S I4 A4) (rx_p S I A (dk_P S0 tau s m) (mo_fin (dk_P S0 tau s m) (st, came + dk_nv tx, sl, al, ar, (made + dk_nv tx, mo_nb bd made (made + dk_nv tx), mo_nc ch made (made + dk_nv tx), ns, dn, an, aw), todo, cs, ans) (mo_al (dk_G S0 tau) (dk_Tt made (s i.toNat) 0) t (mo_a (dk_G S0 tau) (dk_Tt made (s i.toNat) 0)).toNat []) (mo_bd ((pt_c (dk_f tx)).2.2.1.map (pt_abs (s i.toNat))) made bar) an)) := by
    intro I4 A4 ta4 nc4 rst x7 hinv4 hseg4 hrst hnc4 hnc34 hta34
    obtain ⟨g1, g2, g3, g4, g5, g6, g7, g8, g9, g10⟩ := hinv4
    have hdc := rm_t_cell hw (rm_t_up c11 hnc34 hta34) hd0 u1 (fun c c0 c1 => by
      by_cases e : c < nc
      · rw [(g7 c c0 e).2.1]; exact hta c c0 e
      · exact (g10 c (by omega) c1).1.1)
    have hdnc : hd = nc := by omega
    obtain ⟨k1, k2, k3, k4, k5⟩ := g10 hd (by omega) hdc.1
    rw [hdc.2] at k3 k4 k5
    have hfa : mo_a (dk_G S0 tau) t = mo_a (dk_G S0 tau) (dk_Tt made (s i.toNat) 0) := by
      unfold mo_fits at hfit
      rw [Bool.and_eq_true, decide_eq_true_eq, decide_eq_true_eq] at hfit
      have e : mo_a (dk_G S0 tau) (48 * ((s i.toNat : Nat) : Int)) = mo_a (dk_G S0 tau) t := hfit.2
      rw [← e]
      show S0.2.2.1 (20, 0) (48 * ((s i.toNat : Nat) : Int) % 624) = S0.2.2.1 (20, 0) ((made * 624 + (48 * ((s i.toNat : Nat) : Int) + 0)) % 624)
      rw [show (made * 624 + (48 * ((s i.toNat : Nat) : Int) + 0)) % 624 = 48 * ((s i.toNat : Nat) : Int) % 624 by omega]
    have har : 0 ≤ mo_a (dk_G S0 tau) (dk_Tt made (s i.toNat) 0) ∧ mo_a (dk_G S0 tau) (dk_Tt made (s i.toNat) 0) ≤ 3 := (hw _ u1.2.1).2.2.1
    have hxc := v1 x hx0 hxn
    obtain ⟨-, -, -, -, xc5⟩ := hxc
    rw [hxta] at xc5
    have hglen : (pt_c (dk_f tx)).2.2.1.length ≤ 24 := (pt_c_spec hn (by omega)).2.2.1
    have hgl : ((pt_c (dk_f tx)).2.2.1.map (bg_f (dk_Tt made (s i.toNat)) bar)).length = (pt_c (dk_f tx)).2.2.1.length := List.length_map ..
    refine ty_aload_n (pc := 68) (i := 0) (ks := []) (by decide +kernel) rfl ?_
    refine ty_iconst (pc := 69) (n := 0) (ks := []) (by decide +kernel) ?_
    refine ty_putI (pc := 70) (idx := 231) (ci := 13) (f := 36) (by decide +kernel) (by first | rfl | assumption) rfl rfl (by first | exact hS.1 _ _ rfl | assumption) ?_
    rw [rm_sI]
    refine ty_aload_n (pc := 73) (i := 0) (ks := []) (by decide +kernel) rfl ?_
    refine ty_getS (b := (61, 0)) (pc := 74) (idx := 38) (ci := 13) (f := 15) (by decide +kernel) (by first | rfl | assumption) rfl (by first | exact hS.1 _ _ rfl | assumption) (by first | exact hS.2.2 _ _ _ _ rfl | assumption) ?_
    refine ty_iload (pc := 77) (i := 5) (ks := []) (by decide +kernel) rfl ?_
    refine ty_iaload (pc := 79) (ks := []) (by decide +kernel) (by first | rfl | assumption) (by rfl) (by first | exact hS.1 _ _ rfl | assumption) (by first | exact hS.2.1 _ _ _ rfl | assumption) (by omega) (fun v hv => ?_)
    rw [rm_A (by decide)] at hv
    first | (simp (decide := true) only [rm_w, ty_sI, ty_sR, ty_sA, ty_sQ, ty_mA, ty_mQ, ↓reduceIte, false_and, and_false, true_and, and_true, and_self] at hv) | skip
    subst hv
    refine ty_iconst (pc := 80) (n := 1) (ks := []) (by decide +kernel) ?_
    refine ty_isub (pc := 81) (ks := []) (by decide +kernel) ?_
    refine ty_istore (pc := 82) (i := 7) (ks := []) (ls' := [_, _, _, _, _, _, _, _]) (by decide +kernel) rfl ?_
    -- at 84: .iload 7
    rw [k4, show mo_a (dk_G S0 tau) (dk_Tt made (s i.toNat) 0) - 1 = ((mo_a (dk_G S0 tau) (dk_Tt made (s i.toNat) 0)).toNat : Int) - 1 by omega]
    refine rt_args (d + 5) hS (G := dk_G S0 tau) (ta := ta4) (nc := nc4) (X := t) (H := dk_Tt made (s i.toNat) 0) (A0 := A4) ⟨hx0, by omega⟩ ⟨by omega, by omega⟩ (N := (mo_a (dk_G S0 tau) (dk_Tt made (s i.toNat) 0)).toNat) (by omega) (fun k hk => ?_) (fun k hk => k5 k (by omega) (by omega)) _ (rm_u I4 36 0) A4 [] (Nat.le_refl _) (by simp only [List.length_nil]; omega) (fun _ _ _ => rfl) rfl (fun I5 A5 x7' w1 w2 w3 => ?_)
    · have := xc5 k (by omega) (by omega)
      rw [g8 _ (by omega) (by omega), A2o _ (by decide) (by decide) (by decide) (by decide)]
      exact rm_t_up this g3.2 (fun c c0 c1 => (g7 c c0 c1).2.1)
    · have hX5 : rx_S I5 A5 (dk_G S0 tau) ta4 rl nc4 (ng + ((pt_c (dk_f tx)).2.2.1.map (bg_f (dk_Tt made (s i.toNat)) bar)).length) na (st, came + dk_nv tx, sl, al, ar, (made + dk_nv tx, mo_nb bd made (made + dk_nv tx), mo_nc ch made (made + dk_nv tx), ns, dn, an, aw), todo, cs, ans) := by
        have eI : ∀ k, k ≠ 36 → k ≠ 12 → k ≠ 25 → k ≠ 28 → I5 k = I2 k := fun k h1 h2 h3 h4 => (w1 k h1).trans ((if_neg h1).trans (g5 k h2 h3 h4))
        refine rx_new (P := dk_P S0 tau s m) hw hMI0 hX0 hnv.1 (fun k h1 h2 h3 h4 h5 h6 h7 => (eI k h7 h5 h3 h4).trans (i2 k h1 h2 h5 h6)) ((eI _ (by decide) (by decide) (by decide) (by decide)).trans i2v) ((eI _ (by decide) (by decide) (by decide) (by decide)).trans i2b) ?_ ?_ (fun q h1 h2 h3 h4 h5 h6 h7 h8 h9 h10 h11 h12 h13 h14 h15 => (w2 q h14 h15).trans ((g6 q h5 h6 h7 h8 h9 h10 h11 h12 h13).trans (A2o q h1 h2 h3 h4))) ?_ ?_ ?_ g3.2 (by omega) (by omega) (by omega) (fun c c0 c1 => ?_) (fun j j0 j1 => ?_) (fun g g0 g1 => ?_) (fun c c0 c1 => ?_)
        · exact (w1 _ (by decide)).trans g3.1
        · exact (w1 _ (by decide)).trans g4.1
        · rw [w2 _ (by decide) (by decide), g6 _ (by decide) (by decide) (by decide) (by decide) (by decide) (by decide) (by decide) (by decide) (by decide)]; exact A2b
        · rw [w2 _ (by decide) (by decide), g6 _ (by decide) (by decide) (by decide) (by decide) (by decide) (by decide) (by decide) (by decide) (by decide)]; exact A2h
        · rw [w2 _ (by decide) (by decide), g6 _ (by decide) (by decide) (by decide) (by decide) (by decide) (by decide) (by decide) (by decide) (by decide)]; exact A2t
        · rw [w2 _ (by decide) (by decide), w2 _ (by decide) (by decide)]
          obtain ⟨q1, q2, q3⟩ := g7 c c0 c1
          rw [A2o _ (by decide) (by decide) (by decide) (by decide)] at q1 q3
          exact ⟨q1, q2, q3⟩
        · rw [w2 _ (by decide) (by decide), g8 j j0 j1, A2o _ (by decide) (by decide) (by decide) (by decide)]
        · rw [w2 _ (by decide) (by decide), w2 _ (by decide) (by decide), w2 _ (by decide) (by decide), w2 _ (by decide) (by decide), w2 _ (by decide) (by decide)]
          obtain ⟨q1, q2, q3, q4, q5⟩ := g9 g g0 g1
          rw [A2o _ (by decide) (by decide) (by decide) (by decide)] at q1 q2 q3 q4 q5
          exact ⟨q1, q2, q3, q4, q5⟩
        · exact rm_cell_e (g10 c c0 c1) (w2 _ (by decide) (by decide)) (w2 _ (by decide) (by decide)) (w2 _ (by decide) (by decide))
      have hK : rx_K I A I5 A5 := by
        have eI : ∀ k, k ≠ 36 → k ≠ 12 → k ≠ 25 → k ≠ 28 → k ≠ 26 → k ≠ 27 → k ≠ 13 → I5 k = I k := fun k h1 h2 h3 h4 h5 h6 h7 => (w1 k h1).trans ((if_neg h1).trans ((g5 k h2 h3 h4).trans (i2 k h5 h6 h2 h7)))
        refine ⟨⟨eI _ (by decide) (by decide) (by decide) (by decide) (by decide) (by decide) (by decide), eI _ (by decide) (by decide) (by decide) (by decide) (by decide) (by decide) (by decide), eI _ (by decide) (by decide) (by decide) (by decide) (by decide) (by decide) (by decide), eI _ (by decide) (by decide) (by decide) (by decide) (by decide) (by decide) (by decide)⟩, ?_, ?_, ?_, ?_⟩
        all_goals exact (w2 _ (by decide) (by decide)).trans ((g6 _ (by decide) (by decide) (by decide) (by decide) (by decide) (by decide) (by decide) (by decide) (by decide)).trans (A2o _ (by decide) (by decide) (by decide) (by decide)))
      have htd5 : rm_td (dk_G S0 tau) ta4 nc4 A5 (ng + ((pt_c (dk_f tx)).2.2.1.map (bg_f (dk_Tt made (s i.toNat)) bar)).length) rst (mo_bd ((pt_c (dk_f tx)).2.2.1.map (pt_abs (s i.toNat))) made bar ++ todo) := by
        have hseg5 := bg_bd hseg4
        have hlen5 : (mo_bd ((pt_c (dk_f tx)).2.2.1.map (pt_abs (s i.toNat))) made bar).length = (pt_c (dk_f tx)).2.2.1.length := by unfold mo_bd; rw [List.length_map, List.length_map]
        have hnil : ((pt_c (dk_f tx)).2.2.1.map (bg_f (dk_Tt made (s i.toNat)) bar) = []) ↔ (mo_bd ((pt_c (dk_f tx)).2.2.1.map (pt_abs (s i.toNat))) made bar = []) := by
          rw [← List.length_eq_zero_iff, ← List.length_eq_zero_iff, hlen5, hgl]
        have htd4 : rm_td (dk_G S0 tau) ta4 nc4 A4 (ng + ((pt_c (dk_f tx)).2.2.1.map (bg_f (dk_Tt made (s i.toNat)) bar)).length) behind todo := rm_td_keep g3.2 (by omega) (fun c c0 c1 => (g7 c c0 c1).2.1) (fun g q0 q1 => by
          obtain ⟨q1, q2, q3, q4, q5⟩ := g9 g q0 q1
          rw [A2o _ (by decide) (by decide) (by decide) (by decide)] at q1 q2 q3 q4 q5
          exact ⟨q1, q2, q3, q4, q5⟩) _ _ htd0
        have := bg_chain _ ng x6.2.1 (by rw [hlen5, hgl]; omega) hseg5 htd4
        have erst : (if mo_bd ((pt_c (dk_f tx)).2.2.1.map (pt_abs (s i.toNat))) made bar = [] then behind else ng) = rst := by
          rw [hrst]
          by_cases e : (pt_c (dk_f tx)).2.2.1.map (bg_f (dk_Tt made (s i.toNat)) bar) = []
          · rw [if_pos e, if_pos (hnil.mp e)]
          · rw [if_neg e, if_neg (fun q => e (hnil.mpr q))]
        rw [erst] at this
        exact rm_td_keep (Int.le_refl _) (Int.le_refl _) (fun _ _ _ => rfl) (fun g _ _ => by
          rw [w2 _ (by decide) (by decide), w2 _ (by decide) (by decide), w2 _ (by decide) (by decide), w2 _ (by decide) (by decide), w2 _ (by decide) (by decide)]
          exact ⟨rfl, rfl, rfl, rfl, rfl⟩) _ _ this
      have hUn := rx_unify (L := L) (xs := xs) (S := S) d hS hW j1 hX5 w3 j2 j3 hbok htd5
      refine ty_aload_n (pc := 122) (i := 0) (ks := []) (by decide +kernel) rfl ?_
      refine ty_iload (pc := 123) (i := 6) (ks := []) (by decide +kernel) rfl ?_
      -- at 125: .invokevirtual 283
      refine ty_callv (pc := 125) (idx := 283) (m := 131) (n := 2) (c := 13) (vs := [_]) (r := []) (by decide +kernel) rfl rfl (Nat.le_of_ble_eq_true rfl) (by first | rfl | assumption) (by first | exact hS.1 _ _ rfl | assumption) hUn ?_
      rintro _ S6 hq
      obtain ⟨z, rfl, hz, q⟩ := rx_p_K hK hq
      refine ty_KI ?_
      have hzr : 0 ≤ z ∧ z ≤ 1 := by rw [hz]; split <;> omega
      refine ty_ret_i (pc := 128) (ks := []) (ty := .boolean) (by decide +kernel) rfl (ty_fit_z (by omega)) ?_
      exact ⟨z, rfl, hz, q⟩
  -- at the character behind the head
  have hat := rm_at (L := L) (xs := xs) (S := S) (I := I3) (A := A3) (d + 5) hS hinv3.1 (p := (pt_t (dk_f tx) 5 0).2.1) (q := I3 12) ⟨by omega, by omega⟩ c3
  have hr1 := dk_f_r t4 (p := (pt_t (dk_f tx) 5 0).2.1)
  refine ty_istore (pc := 31) (i := 5) (ks := []) (ls' := [_, _, _, _, _, _, _, _]) (by decide +kernel) rfl ?_
  refine ty_iload_n (pc := 33) (i := 3) (ks := []) (by decide +kernel) rfl ?_
  refine ty_istore (pc := 34) (i := 6) (ks := []) (ls' := [_, _, _, _, _, _, _, _]) (by decide +kernel) rfl ?_
  refine ty_aload_n (pc := 36) (i := 0) (ks := []) (by decide +kernel) rfl ?_
  refine ty_aload_n (pc := 37) (i := 0) (ks := []) (by decide +kernel) rfl ?_
  refine ty_getI (pc := 38) (idx := 184) (ci := 13) (f := 12) (by decide +kernel) (by first | rfl | assumption) rfl (by first | exact hS.1 _ _ rfl | assumption) (fun v hv => ?_)
  simp (decide := true) only [rm_I, rm_u, rm_w, ty_sI, ty_sR, ty_sA, ty_sQ, ty_mA, ty_mQ, ↓reduceIte, false_and, and_false, true_and, and_true, and_self] at hv
  subst hv
  -- at 41: .invokevirtual 199
  refine ty_callv (pc := 41) (idx := 199) (m := 119) (n := 2) (c := 13) (vs := [_]) (r := []) (by decide +kernel) rfl rfl (Nat.le_of_ble_eq_true rfl) (by first | rfl | assumption) (by first | exact hS.1 _ _ rfl | assumption) hat ?_
  rintro _ S3 ⟨z, rfl, rfl, rfl⟩
  refine ty_KI ?_
  refine ty_bipush (pc := 44) (n := 58) (ks := []) (by decide +kernel) (by omega) ?_
  -- at 46: .if_icmp .ne 22
  rcases p5 with z | z
  · obtain ⟨e1, e2⟩ := p6 z
    refine ty_icmp_ne (pc := 46) (off := 22) (t := 68) (ks := []) (by decide +kernel) (by omega) (by omega) (fun hc => ?_) (fun hc => ?_)
    rotate_left
    · omega
    clear hc
    refine rest I3 A3 ta3 nc3 behind none ?_ ?_ ?_ (by omega) (Int.le_refl _) (fun _ _ _ => rfl)
    · rw [e1]
      simp only [List.map_nil, List.length_nil]
      rw [show ng + ((0 : Nat) : Int) = ng by omega]
      exact hinv3
    · rw [e1]
      intro k g hk
      simp at hk
    · rw [e1]
      rfl
  · obtain ⟨e1, e2, e3⟩ := p7 z
    have hlt : (pt_t (dk_f tx) 5 0).2.1 < tx.length := by
      by_cases w : (tx.length : Int) ≤ (pt_t (dk_f tx) 5 0).2.1
      · have := hn _ w
        omega
      · omega
    refine ty_icmp_ne (pc := 46) (off := 22) (t := 68) (ks := []) (by decide +kernel) (by omega) (by omega) (fun hc => ?_) (fun hc => ?_)
    · omega
    clear hc
    have hinv3' := bg_src (v := i * 48 + (pt_t (dk_f tx) 5 0).2.1 + 1) hinv3
    have hBG := rm_bg (L := L) (xs := xs) (S := S) (d + 3) hS hw (show made + dk_nv tx ≤ 100000 by omega) hT (b := bar) (behind := behind) (nc := nc3) (ng := ng) (p := (pt_t (dk_f tx) 5 0).2.1 + 1) (ta := ta3) ⟨by omega, by omega⟩ ⟨x6.2.1, by have := rx_dn hMI0; simp only at this; omega⟩ hinv3'.1 hinv3'.2.1 hinv3'.2.2.1.1 hinv3'.2.2.2.1.1 ((if_pos rfl).trans (by omega)) ⟨by omega, by omega⟩ e1 (fun q as' hm' => by rw [e3]; exact List.mem_append.mpr (.inr hm'))
    refine ty_aload_n (pc := 49) (i := 0) (ks := []) (by decide +kernel) rfl ?_
    refine ty_dup (pc := 50) (ks := []) (by decide +kernel) rfl ?_
    refine ty_getI (pc := 51) (idx := 184) (ci := 13) (f := 12) (by decide +kernel) (by first | rfl | assumption) rfl (by first | exact hS.1 _ _ rfl | assumption) (fun v hv => ?_)
    simp (decide := true) only [rm_I, rm_u, rm_w, ty_sI, ty_sR, ty_sA, ty_sQ, ty_mA, ty_mQ, ↓reduceIte, false_and, and_false, true_and, and_true, and_self] at hv
    subst hv
    refine ty_iconst (pc := 54) (n := 1) (ks := []) (by decide +kernel) ?_
    refine ty_iadd (pc := 55) (ks := []) (by decide +kernel) ?_
    refine ty_putI (pc := 56) (idx := 184) (ci := 13) (f := 12) (by decide +kernel) (by first | rfl | assumption) rfl rfl (by first | exact hS.1 _ _ rfl | assumption) ?_
    rw [rm_sI]
    refine ty_aload_n (pc := 59) (i := 0) (ks := []) (by decide +kernel) rfl ?_
    refine ty_iload (pc := 60) (i := 4) (ks := []) (by decide +kernel) rfl ?_
    refine ty_iload_n (pc := 62) (i := 3) (ks := []) (by decide +kernel) rfl ?_
    -- at 63: .invokevirtual 280
    rw [c3]
    refine ty_callv (pc := 63) (idx := 280) (m := 118) (n := 3) (c := 13) (vs := [_, _]) (r := []) (by decide +kernel) rfl rfl (Nat.le_of_ble_eq_true rfl) (by first | rfl | assumption) (by first | exact hS.1 _ _ rfl | assumption) hBG ?_
    rintro _ S4 ⟨rst, rfl, I4, A4, ta4, nc4, rfl, q1, q2, q3, q4⟩
    refine ty_KI ?_
    rw [← e2] at q1 q2 q3
    refine ty_istore (pc := 66) (i := 6) (ks := []) (ls' := [_, _, _, _, _, _, _, _]) (by decide +kernel) rfl ?_
    -- at 68: .aload_n 0
    exact rest I4 A4 ta4 nc4 rst none (bg_trans hw ⟨x5.2.1, x6.2.1⟩ hinv3' q1) q2 q3 (by omega) q1.2.2.1.2 (fun c c0 c1 => (q1.2.2.2.2.2.2.1 c c0 c1).2.1)
end RXT
