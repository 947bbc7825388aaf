/-! The reference's ask and next. -/
def rm_As (S0 : ty_S) (I : Nat → Int) (A : Nat → Int → Int) (tau : dk_T) (as : Option mo_M) : Prop := match as with
  | none => True
  | some M => (∃ q, tau 12 = some q ∧ mo_QI (dk_nv q) M) ∧ (∀ v, 0 ≤ v → v < 26 → A 59 v = dk_rk tau v) ∧ ∃ ta rl nc ng na, rx_S (rm_u I 11 0) A (dk_G S0 tau) ta rl nc ng na M
/-- the reference's state: the same texts, the same search -/
def rm_R (S0 : ty_S) (I : Nat → Int) (A : Nat → Int → Int) (tau : dk_T) (s : Nat → Nat) (tx : List Int) (pl : Int) (m : Nat) (as : Option mo_M) : Prop := rm_X I A tx ∧ I 9 = pl ∧ rp I A tau s m ∧ rx_E I ∧ I 38 = (if as.isSome = true then 1 else 0) ∧ rm_As S0 I A tau as
theorem rp_e {I : Nat → Int} {A : Nat → Int → Int} {tau tau' : dk_T} {s : Nat → Nat} {m : Nat} (h : rp I A tau s m) (he : ∀ i, i < m → tau' (s i) = tau (s i)) : rp I A tau' s m := ⟨h.1, fun i hi t ht => h.2 i hi t ((he i hi).symm.trans ht)⟩
theorem rm_R_thr {S0 : ty_S} {I : Nat → Int} {A : Nat → Int → Int} {tau : dk_T} {s : Nat → Nat} {tx : List Int} {pl : Int} {m : Nat} {as : Option mo_M} (h : rm_R S0 I A tau s tx pl m as) {v : Int} : rm_R S0 (rm_u I 11 v) A tau s tx pl m as := by
  obtain ⟨h1, h2, h3, h4, h5, h6⟩ := h
  refine ⟨h1, h2, h3, h4, h5, ?_⟩
  cases as with
  | none => trivial
  | some M =>
    obtain ⟨g1, g2, ta, rl, nc, ng, na, g3⟩ := h6
    exact ⟨g1, g2, ta, rl, nc, ng, na, by rw [rm_u_u]; exact g3⟩
/-- what seek leaves: value z, thrown less o -/
def rk_p (S2 : ty_S) (I' : Nat → Int) (A' : Nat → Int → Int) (tau : dk_T) (s : Nat → Nat) (tx : List Int) (pl : Int) (m : Nat) (R : Int × mo_M) (z o : Int) : Prop := rm_R S2 I' A' (if (dk_sk R).2.isSome = true then tau else dk_tq tau) s tx pl m (dk_sk R).2 ∧ ((R.1 = 1 ∧ z = R.2.1 ∧ I' 11 = 0) ∨ (R.1 = 0 ∧ I' 11 = 2 - o) ∨ (R.1 = 2 ∧ I' 11 = 3 - o) ∨ (R.1 = 3 ∧ I' 11 = 4 - o))
theorem rk_of {S2 : ty_S} {I I' : Nat → Int} {A A' : Nat → Int → Int} {tau : dk_T} {s : Nat → Nat} {tx : List Int} {pl : Int} {m : Nat} {R : Int × mo_M} {z : Int} (hs : dk_s tau s m) (hX : rm_X I A tx) (hpl : I 9 = pl) (hrp : rp I A tau s m) {q : List Int} (hq : tau 12 = some q) (hqu : ∀ v, 0 ≤ v → v < 26 → A 59 v = dk_rk tau v) (hask : I 38 = 1) (hQI : R.1 = 1 → mo_QI (dk_nv q) R.2) (hE : rx_E I') (h : (R.1 = 1 ∧ z = R.2.1 ∧ rx_K I A I' A' ∧ mo_MI (dk_P S2 tau s m) R.2 ∧ ∃ ta' rl' nc' ng' na', rx_S I' A' (dk_P S2 tau s m).1 ta' rl' nc' ng' na' R.2) ∨ (z = 0 ∧ rx_K (rm_u I 38 0) A I' A' ∧ (R.1 = 0 ∧ I' 11 = 2 ∨ R.1 = 2 ∧ I' 11 = 3 ∨ R.1 = 3 ∧ I' 11 = 4))) : rk_p S2 I' A' tau s tx pl m R z 0 := by
  obtain ⟨y1, y2, y3, y4⟩ := hX
  rcases h with ⟨h1, h2, h3, h4, ta, rl, nc, ng, na, h5⟩ | ⟨h1, h2, h3⟩
  · have e : dk_sk R = (.inr R.2.1, some R.2) := if_pos h1
    unfold rk_p
    rw [e]
    refine ⟨⟨⟨h3.1.1.trans y1, y2, y3, by rw [h3.2.1]; exact y4⟩, h3.1.2.2.1.trans hpl, rp_K hrp h3, hE, h3.1.2.2.2.trans hask, ⟨q, hq, hQI h1⟩, fun v v0 v1 => by rw [h3.2.2.2.2]; exact hqu v v0 v1, ta, rl, nc, ng, na, ⟨rfl, h5.1.2⟩, h5.2⟩, .inl ⟨h1, h2, h5.1.1⟩⟩
  · have e : dk_sk R = (.inl (if R.1 = 0 then 2 else if R.1 = 2 then 1 else 3), none) := if_neg (by omega)
    unfold rk_p
    rw [e]
    have hrp' : rp (rm_u I 38 0) A tau s m := hrp
    refine ⟨⟨⟨h2.1.1.trans y1, y2, y3, by rw [h2.2.1]; exact y4⟩, h2.1.2.2.1.trans hpl, rp_e (rp_K hrp' h2) (fun i hi => if_neg (by have := (hs.2 i hi).1; omega)), hE, h2.1.2.2.2, trivial⟩, .inr (by omega)⟩
/-- n places from b on are copied -/
def rc_f (f g : Int → Int) (b n : Int) : Int → Int := fun q => if b ≤ q ∧ q < b + n then g (q - b) else f q
theorem rc_f_0 {f g : Int → Int} {b : Int} : rc_f f g b 0 = f := by
  funext q
  exact if_neg (by omega)
theorem rc_f_s {f g : Int → Int} {b j : Int} (hj : 0 ≤ j) {i : Int} (hi : i = b + j) : mo_up (rc_f f g b j) i (g j) = rc_f f g b (j + 1) := by
  subst hi
  funext q
  unfold mo_up rc_f
  by_cases e : q = b + j
  · rw [if_pos e, if_pos (by omega), show q - b = j by omega]
  · rw [if_neg e]
    by_cases e2 : b ≤ q ∧ q < b + j
    · rw [if_pos e2, if_pos (by omega)]
    · rw [if_neg e2, if_neg (by omega)]
theorem rx_start {G : mo_G} {I : Nat → Int} {A : Nat → Int → Int} {ta : Int → Int} {nc ng nv : Int} {gs : List (Int × Int × Int)} (h1 : I 11 = 0 ∧ I 40 = 0) (h2 : I 30 = 0) (h3 : I 32 = 0) (h4 : I 26 = nv ∧ I 27 = nv) (h5 : I 25 = nc ∧ 0 ≤ nc ∧ nc ≤ 24) (h6 : I 28 = ng ∧ 0 ≤ ng ∧ ng ≤ 24) (h7 : I 34 = 0) (h8 : I 35 = 0) (h9 : I 33 = 0) (h10 : I 31 = 0) (hc : ∀ c, 0 ≤ c → c < nc → rm_cell G nv ta nc A c) (hb : ∀ v, 0 ≤ v → v < nv → A 63 v = 2147483647 ∧ A 64 v = -1 ∧ A 65 v = -1) : rx_S I A G ta (fun _ => 0) nc ng 0 (mo_start nv gs) := by
  refine ⟨h1, ⟨h2, Int.le_refl _, show (0 : Int) ≤ 500 by decide⟩, ⟨⟨by omega, by rw [h3]; exact (show (0 : Int) ≤ 4 * 0 by decide)⟩, fun j j0 j1 => by omega⟩, h4, ⟨h5.1, h5.2.1, h5.2.2⟩, ⟨h6.1, h6.2.1, h6.2.2⟩, h7, h8, h9, h10, ⟨hc, fun v v0 v1 => .inl ⟨rfl, (hb v v0 v1).1⟩, ⟨fun _ _ _ => rfl, fun v v0 v1 _ => ⟨(hb v v0 v1).2.1, (hb v v0 v1).2.2⟩⟩, fun e e0 e1 => ?_, ⟨by decide, Int.le_refl _⟩, fun k k0 k1 => ?_, fun j k j0 jk k1 => ?_, fun i i0 i1 => ?_⟩, trivial⟩
  · have e1 : e < 0 := e1
    omega
  · omega
  · omega
  · have i1 : i < 0 := i1
    omega
section RMK
variable {L : Nat} {xs : Nat → Int32} {S S0 S2 : ty_S} {I : Nat → Int} {A : Nat → Int → Int} {tau : dk_T} {s : Nat → Nat} {tx : List Int} {pl : Int} {m : Nat} {as : Option mo_M}
theorem rk_copy (d : Nat) (hS : ty_st S) {x1 : Int32} {n : Int} (hn : n ≤ 48) {Q : ai_O → ty_S → Prop} (h : ty_W L xs d 115 126 [some (.inr (.inr (some (94, 0)))), some (.inl x1), some (.inl (ty_J n)), some (.inl (ty_J n))] [] (rm_s S I (rm_a A 54 (rc_f (A 54) (A 53) 576 n))) Q) : ∀ (k : Nat) (j : Int), 0 ≤ j → j + k = n → ty_W L xs d 115 99 [some (.inr (.inr (some (94, 0)))), some (.inl x1), some (.inl (ty_J n)), some (.inl (ty_J j))] [] (rm_s S I (rm_a A 54 (rc_f (A 54) (A 53) 576 j))) Q := by
  intro k
  induction k with
  | zero =>
    intro j j0 hj
    have e : j = n := by omega
    subst e
    refine ty_iload_n (pc := 99) (i := 3) (ks := []) (by decide +kernel) rfl ?_
    refine ty_iload_n (pc := 100) (i := 2) (ks := []) (by decide +kernel) rfl ?_
    -- at 101: .if_icmp .ge 25
    refine ty_icmp_ge (pc := 101) (off := 25) (t := 126) (ks := []) (by decide +kernel) (by omega) (by omega) (fun hc => ?_) (fun hc => ?_)
    · exact h
    · omega
  | succ k ih =>
    intro j j0 hj
    refine ty_iload_n (pc := 99) (i := 3) (ks := []) (by decide +kernel) rfl ?_
    refine ty_iload_n (pc := 100) (i := 2) (ks := []) (by decide +kernel) rfl ?_
    -- at 101: .if_icmp .ge 25
    refine ty_icmp_ge (pc := 101) (off := 25) (t := 126) (ks := []) (by decide +kernel) (by omega) (by omega) (fun hc => ?_) (fun hc => ?_)
    · omega
    clear hc
    refine ty_aload_n (pc := 104) (i := 0) (ks := []) (by decide +kernel) rfl ?_
    refine ty_getS (b := (54, 0)) (pc := 105) (idx := 13) (ci := 13) (f := 1) (by decide +kernel) (by first | rfl | assumption) rfl (by first | exact hS.1 _ _ rfl | assumption) (by first | exact hS.2.2 _ _ _ _ rfl | assumption) ?_
    refine ty_sipush (pc := 108) (n := 576) (ks := []) (by decide +kernel) (by omega) ?_
    refine ty_iload_n (pc := 111) (i := 3) (ks := []) (by decide +kernel) rfl ?_
    refine ty_iadd (pc := 112) (ks := []) (by decide +kernel) ?_
    refine ty_aload_n (pc := 113) (i := 0) (ks := []) (by decide +kernel) rfl ?_
    refine ty_getS (b := (53, 0)) (pc := 114) (idx := 7) (ci := 13) (f := 0) (by decide +kernel) (by first | rfl | assumption) rfl (by first | exact hS.1 _ _ rfl | assumption) (by first | exact hS.2.2 _ _ _ _ rfl | assumption) ?_
    refine ty_iload_n (pc := 117) (i := 3) (ks := []) (by decide +kernel) rfl ?_
    refine ty_iaload (pc := 118) (ks := []) (by decide +kernel) (by first | rfl | assumption) (by rfl) (by first | exact hS.1 _ _ rfl | assumption) (by first | exact hS.2.1 _ _ _ rfl | assumption) (by omega) (fun v hv => ?_)
    rw [rm_A (by decide)] at hv
    first | (simp (decide := true) only [rm_w, ty_sI, ty_sR, ty_sA, ty_sQ, ty_mA, ty_mQ, ↓reduceIte, false_and, and_false, true_and, and_true, and_self] at hv) | skip
    subst hv
    refine ty_iastore (pc := 119) (ks := []) (by decide +kernel) (by first | rfl | assumption) (by rfl) (by first | exact hS.1 _ _ rfl | assumption) (by first | exact hS.2.1 _ _ _ rfl | assumption) (by omega) ?_
    rw [rm_sA (by decide)]
    refine ty_iinc (pc := 120) (i := 3) (n := 1) (ks := []) (ls' := [_, _, _, _]) (by decide +kernel) rfl rfl ?_
    refine ty_goto (pc := 123) (off := (-24)) (t := 99) (ks := []) (by decide +kernel) ?_
    -- at 99: .iload_n 3
    have e : rm_a A 54 (rc_f (A 54) (A 53) 576 j) 53 = A 53 := rfl
    rw [e, rm_w_a, rc_f_s j0 rfl]
    exact ih (j + 1) (by omega) (by omega)
theorem rk_quest (d : Nat) (hS : ty_st S) {x1 x2 : Int32} {Q : ai_O → ty_S → Prop} (h : ∀ x3 : Int32, ty_W L xs d 115 172 [some (.inr (.inr (some (94, 0)))), some (.inl x1), some (.inl x2), some (.inl x3)] [] (rm_s S I (rm_a A 59 (rc_f (A 59) (A 58) 0 26))) Q) : ∀ (k : Nat) (j : Int), 0 ≤ j → j + k = 26 → ty_W L xs d 115 148 [some (.inr (.inr (some (94, 0)))), some (.inl x1), some (.inl x2), some (.inl (ty_J j))] [] (rm_s S I (rm_a A 59 (rc_f (A 59) (A 58) 0 j))) Q := by
  intro k
  induction k with
  | zero =>
    intro j j0 hj
    have e : j = 26 := by omega
    subst e
    refine ty_iload_n (pc := 148) (i := 3) (ks := []) (by decide +kernel) rfl ?_
    refine ty_bipush (pc := 149) (n := 26) (ks := []) (by decide +kernel) (by omega) ?_
    -- at 151: .if_icmp .ge 21
    refine ty_icmp_ge (pc := 151) (off := 21) (t := 172) (ks := []) (by decide +kernel) (by omega) (by omega) (fun hc => ?_) (fun hc => ?_)
    · exact h _
    · omega
  | succ k ih =>
    intro j j0 hj
    refine ty_iload_n (pc := 148) (i := 3) (ks := []) (by decide +kernel) rfl ?_
    refine ty_bipush (pc := 149) (n := 26) (ks := []) (by decide +kernel) (by omega) ?_
    -- at 151: .if_icmp .ge 21
    refine ty_icmp_ge (pc := 151) (off := 21) (t := 172) (ks := []) (by decide +kernel) (by omega) (by omega) (fun hc => ?_) (fun hc => ?_)
    · omega
    clear hc
    refine ty_aload_n (pc := 154) (i := 0) (ks := []) (by decide +kernel) rfl ?_
    refine ty_getS (b := (59, 0)) (pc := 155) (idx := 28) (ci := 13) (f := 6) (by decide +kernel) (by first | rfl | assumption) rfl (by first | exact hS.1 _ _ rfl | assumption) (by first | exact hS.2.2 _ _ _ _ rfl | assumption) ?_
    refine ty_iload_n (pc := 158) (i := 3) (ks := []) (by decide +kernel) rfl ?_
    refine ty_aload_n (pc := 159) (i := 0) (ks := []) (by decide +kernel) rfl ?_
    refine ty_getS (b := (58, 0)) (pc := 160) (idx := 25) (ci := 13) (f := 5) (by decide +kernel) (by first | rfl | assumption) rfl (by first | exact hS.1 _ _ rfl | assumption) (by first | exact hS.2.2 _ _ _ _ rfl | assumption) ?_
    refine ty_iload_n (pc := 163) (i := 3) (ks := []) (by decide +kernel) rfl ?_
    refine ty_iaload (pc := 164) (ks := []) (by decide +kernel) (by first | rfl | assumption) (by rfl) (by first | exact hS.1 _ _ rfl | assumption) (by first | exact hS.2.1 _ _ _ rfl | assumption) (by omega) (fun v hv => ?_)
    rw [rm_A (by decide)] at hv
    first | (simp (decide := true) only [rm_w, ty_sI, ty_sR, ty_sA, ty_sQ, ty_mA, ty_mQ, ↓reduceIte, false_and, and_false, true_and, and_true, and_self] at hv) | skip
    subst hv
    refine ty_iastore (pc := 165) (ks := []) (by decide +kernel) (by first | rfl | assumption) (by rfl) (by first | exact hS.1 _ _ rfl | assumption) (by first | exact hS.2.1 _ _ _ rfl | assumption) (by omega) ?_
    rw [rm_sA (by decide)]
    refine ty_iinc (pc := 166) (i := 3) (n := 1) (ks := []) (ls' := [_, _, _, _]) (by decide +kernel) rfl rfl ?_
    refine ty_goto (pc := 169) (off := (-21)) (t := 148) (ks := []) (by decide +kernel) ?_
    -- at 148: .iload_n 3
    have e : rm_a A 59 (rc_f (A 59) (A 58) 0 j) 58 = A 58 := rfl
    rw [e, rm_w_a, rc_f_s j0 (by omega)]
    exact ih (j + 1) (by omega) (by omega)
theorem rm_ask (d : Nat) (hS : ty_st S) (hR : rm_R S0 I A tau s tx pl m as) (hs : dk_s tau s m) (hU : (dk_r 12 tx).1 = true → dk_U S2 (dk_tp tau 12 tx)) (hMI : (dk_r 12 tx).1 = true → mo_MI (dk_P S2 (dk_tp tau 12 tx) s m) (mo_start (dk_nv tx) (dk_gs (dk_tp tau 12 tx) 12))) :
    ty_C L xs (d + 11) 115 [.inr (.inr (some (94, 0)))] (rm_s S I A) (ty_oI fun z S' => ∃ I' A', S' = rm_s S I' A' ∧ (((dk_r 12 tx).1 = false ∧ I' 11 = 1 ∧ rm_R S0 I' A' (dk_tq tau) s [] (dk_r 12 tx).2.1 m none) ∨ ((dk_r 12 tx).1 = true ∧ rk_p S2 I' A' (dk_tp tau 12 tx) s [] pl m (mo_seek (dk_P S2 (dk_tp tau 12 tx) s m) 1000000 true (mo_start (dk_nv tx) (dk_gs (dk_tp tau 12 tx) 12))) z 0))) := by
  obtain ⟨hX, hpl, hrp, hE, hask, -⟩ := hR
  obtain ⟨z1, z2, z3, z4⟩ := id hX
  have hRd : ty_C L xs (d + 10) 113 [.inr (.inr (some (94, 0)))] (rm_s S (rm_u I 10 0) A) (rm_gp S I A (pt_gs (dk_f tx) 24 0).1 (pt_gs (dk_f tx) 24 0).2.1) := by
    have := rm_readGoals (L := L) (xs := xs) (d + 6) hS hX (g := A 57)
    unfold rm_p at this
    rw [rm_a_self] at this
    exact this
  have er : dk_r 12 tx = pt_gs (dk_f tx) 24 0 := if_pos rfl
  have hspec := pt_gs_spec (h := dk_f tx) (n := tx.length) (fun p hp => dk_f_n hp) 24 0 (Int.le_refl _) (by omega)
  refine ty_enter (ml := 4) (ls := [_, _, _, _]) rfl rfl (Nat.le_of_ble_eq_true rfl) ?_
  refine ty_aload_n (pc := 0) (i := 0) (ks := []) (by decide +kernel) rfl ?_
  refine ty_iconst (pc := 1) (n := 0) (ks := []) (by decide +kernel) ?_
  refine ty_putI (pc := 2) (idx := 153) (ci := 13) (f := 10) (by decide +kernel) (by first | rfl | assumption) rfl rfl (by first | exact hS.1 _ _ rfl | assumption) ?_
  rw [rm_sI]
  refine ty_aload_n (pc := 5) (i := 0) (ks := []) (by decide +kernel) rfl ?_
  -- at 6: .invokevirtual 167
  refine ty_callv (pc := 6) (idx := 167) (m := 113) (n := 1) (c := 13) (vs := []) (r := []) (by decide +kernel) rfl rfl (Nat.le_of_ble_eq_true rfl) (by first | rfl | assumption) (by first | exact hS.1 _ _ rfl | assumption) hRd ?_
  rintro _ S1 ⟨z, rfl, hz, g', rfl⟩
  refine ty_KI ?_
  unfold rm_p
  by_cases hb : (pt_gs (dk_f tx) 24 0).1 = true
  · rw [if_pos hb] at hz
    subst hz
    have hbr : (dk_r 12 tx).1 = true := by rw [er]; exact hb
    have hU := hU hbr
    have hMI := hMI hbr
    have ht12 : dk_tp tau 12 tx 12 = some tx := if_pos rfl
    have hs' : dk_s (dk_tp tau 12 tx) s m := ⟨hs.1, fun i hi => ⟨(hs.2 i hi).1, by
      obtain ⟨h1, t, ht⟩ := hs.2 i hi
      exact ⟨t, (if_neg (by omega)).trans ht⟩⟩⟩
    have hok := (hU 12 tx ht12).1
    have hnv := dk_nv_r hok
    have hgl : (pt_gs (dk_f tx) 24 0).2.2.1.length ≤ 24 := by
      have := (dk_spec hok).2.2.2.2.2.1
      rw [er] at this
      exact this
    have hw : mo_wf (dk_G S2 (dk_tp tau 12 tx)) := dk_wf hU
    refine ty_istore_n (pc := 9) (i := 1) (ks := []) (ls' := [_, _, _, _]) (by decide +kernel) rfl ?_
    refine ty_iload_n (pc := 10) (i := 1) (ks := []) (by decide +kernel) rfl ?_
    -- at 11: .ifCond .ne 11
    refine ty_if_ne (pc := 11) (off := 11) (t := 22) (ks := []) (by decide +kernel) (by omega) (fun hc => ?_) (fun hc => ?_)
    rotate_left
    · exact absurd hc (by decide)
    clear hc
    refine ty_aload_n (pc := 22) (i := 0) (ks := []) (by decide +kernel) rfl ?_
    refine ty_getI (pc := 23) (idx := 146) (ci := 13) (f := 7) (by decide +kernel) (by first | rfl | assumption) rfl (by first | exact hS.1 _ _ rfl | assumption) (fun v hv => ?_)
    simp (decide := true) only [rm_I, rm_u, rm_w, ty_sI, ty_sR, ty_sA, ty_sQ, ty_mA, ty_mQ, ↓reduceIte, false_and, and_false, true_and, and_true, and_self] at hv
    subst hv
    refine ty_istore_n (pc := 26) (i := 2) (ks := []) (ls' := [_, _, _, _]) (by decide +kernel) rfl ?_
    refine ty_aload_n (pc := 27) (i := 0) (ks := []) (by decide +kernel) rfl ?_
    refine ty_iconst (pc := 28) (n := 0) (ks := []) (by decide +kernel) ?_
    refine ty_putI (pc := 29) (idx := 146) (ci := 13) (f := 7) (by decide +kernel) (by first | rfl | assumption) rfl rfl (by first | exact hS.1 _ _ rfl | assumption) ?_
    rw [rm_sI]
    refine ty_aload_n (pc := 32) (i := 0) (ks := []) (by decide +kernel) rfl ?_
    refine ty_iload_n (pc := 33) (i := 1) (ks := []) (by decide +kernel) rfl ?_
    refine ty_putZ (pc := 34) (idx := 177) (ci := 13) (f := 38) (by decide +kernel) (by first | rfl | assumption) rfl rfl (by first | exact hS.1 _ _ rfl | assumption) (by omega) ?_
    rw [rm_sI]
    refine ty_aload_n (pc := 37) (i := 0) (ks := []) (by decide +kernel) rfl ?_
    refine ty_iload_n (pc := 38) (i := 1) (ks := []) (by decide +kernel) rfl ?_
    -- at 39: .invokevirtual 142
    rw [z1]
    refine ty_callv (pc := 39) (idx := 142) (m := 106) (n := 2) (c := 13) (vs := [_]) (r := []) (by decide +kernel) rfl rfl (Nat.le_of_ble_eq_true rfl) (by first | rfl | assumption) (by first | exact hS.1 _ _ rfl | assumption) ((rm_bad (L := L) (xs := xs) 0 hS (f := 1) (.inr rfl)).deeper (by omega)) ?_
    rintro _ S1 ⟨z, rfl, hz, rfl⟩
    have hz : z = 0 := by omega
    subst hz
    refine ty_KI ?_
    refine ty_if_eq (pc := 42) (off := 5) (t := 47) (ks := []) (by decide +kernel) (by omega) (fun hc => ?_) (fun hc => ?_)
    rotate_left
    · exact absurd rfl hc
    clear hc
    refine ty_aload_n (pc := 47) (i := 0) (ks := []) (by decide +kernel) rfl ?_
    refine ty_aload_n (pc := 48) (i := 0) (ks := []) (by decide +kernel) rfl ?_
    refine ty_aload_n (pc := 49) (i := 0) (ks := []) (by decide +kernel) rfl ?_
    refine ty_aload_n (pc := 50) (i := 0) (ks := []) (by decide +kernel) rfl ?_
    refine ty_aload_n (pc := 51) (i := 0) (ks := []) (by decide +kernel) rfl ?_
    refine ty_aload_n (pc := 52) (i := 0) (ks := []) (by decide +kernel) rfl ?_
    refine ty_aload_n (pc := 53) (i := 0) (ks := []) (by decide +kernel) rfl ?_
    refine ty_aload_n (pc := 54) (i := 0) (ks := []) (by decide +kernel) rfl ?_
    refine ty_aload_n (pc := 55) (i := 0) (ks := []) (by decide +kernel) rfl ?_
    refine ty_aload_n (pc := 56) (i := 0) (ks := []) (by decide +kernel) rfl ?_
    refine ty_iconst (pc := 57) (n := 0) (ks := []) (by decide +kernel) ?_
    refine ty_dup_x1 (pc := 58) (ks := []) (by decide +kernel) rfl rfl ?_
    refine ty_putI (pc := 59) (idx := 263) (ci := 13) (f := 35) (by decide +kernel) (by first | rfl | assumption) rfl rfl (by first | exact hS.1 _ _ rfl | assumption) ?_
    rw [rm_sI]
    refine ty_dup_x1 (pc := 62) (ks := []) (by decide +kernel) rfl rfl ?_
    refine ty_putI (pc := 63) (idx := 292) (ci := 13) (f := 34) (by decide +kernel) (by first | rfl | assumption) rfl rfl (by first | exact hS.1 _ _ rfl | assumption) ?_
    rw [rm_sI]
    refine ty_dup_x1 (pc := 66) (ks := []) (by decide +kernel) rfl rfl ?_
    refine ty_putI (pc := 67) (idx := 289) (ci := 13) (f := 33) (by decide +kernel) (by first | rfl | assumption) rfl rfl (by first | exact hS.1 _ _ rfl | assumption) ?_
    rw [rm_sI]
    refine ty_dup_x1 (pc := 70) (ks := []) (by decide +kernel) rfl rfl ?_
    refine ty_putI (pc := 71) (idx := 219) (ci := 13) (f := 32) (by decide +kernel) (by first | rfl | assumption) rfl rfl (by first | exact hS.1 _ _ rfl | assumption) ?_
    rw [rm_sI]
    refine ty_dup_x1 (pc := 74) (ks := []) (by decide +kernel) rfl rfl ?_
    refine ty_putI (pc := 75) (idx := 317) (ci := 13) (f := 31) (by decide +kernel) (by first | rfl | assumption) rfl rfl (by first | exact hS.1 _ _ rfl | assumption) ?_
    rw [rm_sI]
    refine ty_dup_x1 (pc := 78) (ks := []) (by decide +kernel) rfl rfl ?_
    refine ty_putI (pc := 79) (idx := 222) (ci := 13) (f := 30) (by decide +kernel) (by first | rfl | assumption) rfl rfl (by first | exact hS.1 _ _ rfl | assumption) ?_
    rw [rm_sI]
    refine ty_dup_x1 (pc := 82) (ks := []) (by decide +kernel) rfl rfl ?_
    refine ty_putI (pc := 83) (idx := 209) (ci := 13) (f := 28) (by decide +kernel) (by first | rfl | assumption) rfl rfl (by first | exact hS.1 _ _ rfl | assumption) ?_
    rw [rm_sI]
    refine ty_dup_x1 (pc := 86) (ks := []) (by decide +kernel) rfl rfl ?_
    refine ty_putI (pc := 87) (idx := 194) (ci := 13) (f := 27) (by decide +kernel) (by first | rfl | assumption) rfl rfl (by first | exact hS.1 _ _ rfl | assumption) ?_
    rw [rm_sI]
    refine ty_dup_x1 (pc := 90) (ks := []) (by decide +kernel) rfl rfl ?_
    refine ty_putI (pc := 91) (idx := 190) (ci := 13) (f := 26) (by decide +kernel) (by first | rfl | assumption) rfl rfl (by first | exact hS.1 _ _ rfl | assumption) ?_
    rw [rm_sI]
    refine ty_putI (pc := 94) (idx := 196) (ci := 13) (f := 25) (by decide +kernel) (by first | rfl | assumption) rfl rfl (by first | exact hS.1 _ _ rfl | assumption) ?_
    rw [rm_sI]
    refine ty_iconst (pc := 97) (n := 0) (ks := []) (by decide +kernel) ?_
    refine ty_istore_n (pc := 98) (i := 3) (ks := []) (ls' := [_, _, _, _]) (by decide +kernel) rfl ?_
    -- at 99: .iload_n 3
    generalize hI3 : rm_u _ 25 0 = I3
    have i3 : ∀ k, k ≠ 10 → k ≠ 7 → k ≠ 38 → k ≠ 11 → k ≠ 35 → k ≠ 34 → k ≠ 33 → k ≠ 32 → k ≠ 31 → k ≠ 30 → k ≠ 28 → k ≠ 27 → k ≠ 26 → k ≠ 25 → I3 k = I k := fun k h1 h2 h3 h4 h5 h6 h7 h8 h9 h10 h11 h12 h13 h14 => by
      rw [← hI3]
      simp only [rm_u]
      rw [if_neg h14, if_neg h13, if_neg h12, if_neg h11, if_neg h10, if_neg h9, if_neg h8, if_neg h7, if_neg h6, if_neg h5, if_neg h4, if_neg h3, if_neg h2, if_neg h1]
    have j1 : I3 11 = 0 := by rw [← hI3]; rfl
    have j2 : I3 30 = 0 := by rw [← hI3]; rfl
    have j3 : I3 32 = 0 := by rw [← hI3]; rfl
    have j4 : I3 26 = 0 := by rw [← hI3]; rfl
    have j5 : I3 27 = 0 := by rw [← hI3]; rfl
    have j6 : I3 25 = 0 := by rw [← hI3]; rfl
    have j7 : I3 28 = 0 := by rw [← hI3]; rfl
    have j8 : I3 34 = 0 := by rw [← hI3]; rfl
    have j9 : I3 35 = 0 := by rw [← hI3]; rfl
    have j10 : I3 33 = 0 := by rw [← hI3]; rfl
    have j11 : I3 31 = 0 := by rw [← hI3]; rfl
    have j12 : I3 7 = 0 := by rw [← hI3]; rfl
    have j13 : I3 38 = 1 := by rw [← hI3]; rfl
    have j14 : I3 40 = 0 := (i3 _ (by decide) (by decide) (by decide) (by decide) (by decide) (by decide) (by decide) (by decide) (by decide) (by decide) (by decide) (by decide) (by decide) (by decide)).trans hE.1.1
    have j15 : I3 9 = pl := (i3 _ (by decide) (by decide) (by decide) (by decide) (by decide) (by decide) (by decide) (by decide) (by decide) (by decide) (by decide) (by decide) (by decide) (by decide)).trans hpl
    have j16 : I3 8 = m := (i3 _ (by decide) (by decide) (by decide) (by decide) (by decide) (by decide) (by decide) (by decide) (by decide) (by decide) (by decide) (by decide) (by decide) (by decide)).trans hrp.1.1
    clear hI3 i3
    have aO : ∀ q, q ≠ 57 → rm_a A 57 g' q = A q := fun q hq => if_neg hq
    generalize rm_a A 57 g' = A1 at aO
    have h0 : rm_s S I3 A1 = rm_s S I3 (rm_a A1 54 (rc_f (A1 54) (A1 53) 576 0)) := by rw [rc_f_0, rm_a_self]
    rw [h0]
    refine rk_copy _ hS (n := tx.length) (by omega) ?_ tx.length 0 (Int.le_refl _) (by omega)
    have a4c : ∀ p : Int, 0 ≤ p → p < tx.length → rm_a A1 54 (rc_f (A1 54) (A1 53) 576 tx.length) 54 (576 + p) = dk_f tx p := fun p p0 p1 => by
      show rc_f (A1 54) (A1 53) 576 tx.length (576 + p) = _
      unfold rc_f
      rw [if_pos (by omega), show 576 + p - 576 = p by omega, aO _ (by decide)]
      exact rm_X_at hX ⟨p0, p1⟩
    have a4n : ∀ p : Int, p < 576 → rm_a A1 54 (rc_f (A1 54) (A1 53) 576 tx.length) 54 p = A 54 p := fun p p1 => by
      show rc_f (A1 54) (A1 53) 576 tx.length p = _
      unfold rc_f
      rw [if_neg (by omega), aO _ (by decide)]
    have a4o : ∀ q, q ≠ 57 → q ≠ 54 → rm_a A1 54 (rc_f (A1 54) (A1 53) 576 tx.length) q = A q := fun q h1 h2 => (if_neg h2).trans (aO q h1)
    generalize rm_a A1 54 (rc_f (A1 54) (A1 53) 576 tx.length) = A4 at a4c a4n a4o
    clear h0 aO
    have hsrc : rm_src (rm_u (rm_u I3 12 576) 13 (576 + tx.length)) A4 576 tx := ⟨rfl, z2, z3, ⟨by decide, by decide⟩, a4c⟩
    refine ty_aload_n (pc := 126) (i := 0) (ks := []) (by decide +kernel) rfl ?_
    refine ty_sipush (pc := 127) (n := 576) (ks := []) (by decide +kernel) (by omega) ?_
    refine ty_putI (pc := 130) (idx := 184) (ci := 13) (f := 12) (by decide +kernel) (by first | rfl | assumption) rfl rfl (by first | exact hS.1 _ _ rfl | assumption) ?_
    rw [rm_sI]
    refine ty_aload_n (pc := 133) (i := 0) (ks := []) (by decide +kernel) rfl ?_
    refine ty_sipush (pc := 134) (n := 576) (ks := []) (by decide +kernel) (by omega) ?_
    refine ty_iload_n (pc := 137) (i := 2) (ks := []) (by decide +kernel) rfl ?_
    refine ty_iadd (pc := 138) (ks := []) (by decide +kernel) ?_
    refine ty_putI (pc := 139) (idx := 181) (ci := 13) (f := 13) (by decide +kernel) (by first | rfl | assumption) rfl rfl (by first | exact hS.1 _ _ rfl | assumption) ?_
    rw [rm_sI]
    refine ty_aload_n (pc := 142) (i := 0) (ks := []) (by decide +kernel) rfl ?_
    -- at 143: .invokevirtual 277
    refine ty_callv (pc := 143) (idx := 277) (m := 116) (n := 1) (c := 13) (vs := []) (r := []) (by decide +kernel) rfl rfl (Nat.le_of_ble_eq_true rfl) (by first | rfl | assumption) (by first | exact hS.1 _ _ rfl | assumption) ((rm_number (L := L) (xs := xs) (S := S) 0 hS hsrc (v0 := 0) rfl j4 ⟨by decide, by decide⟩).deeper (by omega)) ?_
    rintro _ S1 ⟨rfl, mp, rfl, hmp⟩
    refine ty_KV ?_
    have hT := dk_bt_T hU ht12 (Int.le_refl 0) hmp
    rw [er] at hT
    have b5 : rm_bn A4 0 (dk_nv tx) mp 63 = cm_f (A4 63) 0 (0 + dk_nv tx) 2147483647 := rfl
    have h5 : rm_bn A4 0 (dk_nv tx) mp 64 = cm_f (A4 64) 0 (0 + dk_nv tx) (-1) := rfl
    have t5 : rm_bn A4 0 (dk_nv tx) mp 65 = cm_f (A4 65) 0 (0 + dk_nv tx) (-1) := rfl
    have m5 : rm_bn A4 0 (dk_nv tx) mp 58 = mp := rfl
    have o5 : ∀ q, q ≠ 63 → q ≠ 64 → q ≠ 65 → q ≠ 58 → rm_bn A4 0 (dk_nv tx) mp q = A4 q := fun q h1 h2 h3 h4 => by
      unfold rm_bn rm_a
      rw [if_neg h4, if_neg h3, if_neg h2, if_neg h1]
    generalize rm_bn A4 0 (dk_nv tx) mp = A5 at b5 h5 t5 m5 o5
    generalize hI5 : rm_u (rm_u (rm_u (rm_u I3 12 576) 13 (576 + tx.length)) 26 (0 + dk_nv tx)) 27 _ = I5
    have i5 : ∀ k, k ≠ 12 → k ≠ 13 → k ≠ 26 → k ≠ 27 → I5 k = I3 k := fun k h1 h2 h3 h4 => by
      rw [← hI5]
      exact (if_neg h4).trans ((if_neg h3).trans ((if_neg h2).trans (if_neg h1)))
    have k1 : I5 12 = 576 + 0 := by rw [← hI5]; rfl
    have k2 : I5 13 = 576 + tx.length := by rw [← hI5]; rfl
    have k3 : I5 26 = dk_nv tx := by rw [← hI5]; show 0 + dk_nv tx = _; omega
    have k4 : I5 27 = dk_nv tx := by
      rw [← hI5]
      show I3 27 + dk_nv tx = _
      omega
    clear hI5
    refine ty_iconst (pc := 146) (n := 0) (ks := []) (by decide +kernel) ?_
    refine ty_istore_n (pc := 147) (i := 3) (ks := []) (ls' := [_, _, _, _]) (by decide +kernel) rfl ?_
    -- at 148: .iload_n 3
    have h0 : rm_s S I5 A5 = rm_s S I5 (rm_a A5 59 (rc_f (A5 59) (A5 58) 0 0)) := by rw [rc_f_0, rm_a_self]
    rw [h0]
    refine rk_quest _ hS (fun x3 => ?_) 26 0 (Int.le_refl _) (by omega)
    clear h0
    have o6 : ∀ q, q ≠ 59 → rm_a A5 59 (rc_f (A5 59) (A5 58) 0 26) q = A5 q := fun q h1 => if_neg h1
    have q6 : ∀ v, 0 ≤ v → v < 26 → rm_a A5 59 (rc_f (A5 59) (A5 58) 0 26) 59 v = mp v := fun v v0 v1 => by
      show rc_f (A5 59) (A5 58) 0 26 v = _
      unfold rc_f
      rw [if_pos (by omega), m5, show v - 0 = v by omega]
    generalize rm_a A5 59 (rc_f (A5 59) (A5 58) 0 26) = A6 at o6 q6
    have hsrc6 : rm_src I5 A6 576 tx := ⟨k2, z2, z3, ⟨by decide, by decide⟩, fun p p0 p1 => by
      rw [o6 _ (by decide), o5 _ (by decide) (by decide) (by decide) (by decide)]
      exact a4c p p0 p1⟩
    have hBG := rm_bg (L := L) (xs := xs) (S := S) (I := I5) (A := A6) (d + 7) hS hw (show 0 + dk_nv tx ≤ 100000 by omega) hT (b := 0) (behind := -1) (nc := 0) (ng := 0) (p := 0) (ta := fun _ => 0) ⟨by decide, by decide⟩ ⟨by decide, by decide⟩ hsrc6 (fun u _ _ => by rw [o6 _ (by decide), m5]) ((i5 _ (by decide) (by decide) (by decide) (by decide)).trans j6) ((i5 _ (by decide) (by decide) (by decide) (by decide)).trans j7) k1 ⟨Int.le_refl _, by omega⟩ hb (fun q as hm => hm)
    refine ty_aload_n (pc := 172) (i := 0) (ks := []) (by decide +kernel) rfl ?_
    refine ty_aload_n (pc := 173) (i := 0) (ks := []) (by decide +kernel) rfl ?_
    refine ty_iconst (pc := 174) (n := 0) (ks := []) (by decide +kernel) ?_
    refine ty_iconst (pc := 175) (n := (-1)) (ks := []) (by decide +kernel) ?_
    -- at 176: .invokevirtual 280
    refine ty_callv (pc := 176) (idx := 280) (m := 118) (n := 3) (c := 13) (vs := [_, _]) (r := [_]) (by decide +kernel) rfl rfl (Nat.le_of_ble_eq_true rfl) (by first | rfl | assumption) (by first | exact hS.1 _ _ rfl | assumption) hBG ?_
    rintro _ S1 ⟨td, rfl, I7, A7, ta, nc, rfl, q1, q2, q3, q4⟩
    refine ty_KI ?_
    obtain ⟨g1, g2, g3, g4, g5, g6, g7, g8, g9, g10⟩ := q1
    have i7 : ∀ k, k ≠ 12 → k ≠ 25 → k ≠ 28 → k ≠ 13 → k ≠ 26 → k ≠ 27 → I7 k = I3 k := fun k h1 h2 h3 h4 h5 h6 => (g5 k h1 h2 h3).trans (i5 k h1 h4 h5 h6)
    have hgs : dk_gs (dk_tp tau 12 tx) 12 = (pt_gs (dk_f tx) 24 0).2.2.1.map (pt_abs 12) := by
      unfold dk_gs
      rw [ht12]
      show List.map (pt_abs 12) (dk_r 12 tx).2.2.1 = _
      rw [er]
    have hlen : ((pt_gs (dk_f tx) 24 0).2.2.1.map (bg_f (dk_Tt 0 12) 0)).length = (pt_gs (dk_f tx) 24 0).2.2.1.length := List.length_map ..
    rw [hlen] at g4
    have hX7 : rx_S (rm_u I7 29 td) A7 (dk_G S2 (dk_tp tau 12 tx)) ta (fun _ => 0) nc (0 + ((pt_gs (dk_f tx) 24 0).2.2.1.length : Int)) 0 (mo_start (dk_nv tx) (dk_gs (dk_tp tau 12 tx) 12)) := by
      refine rx_start ⟨(i7 _ (by decide) (by decide) (by decide) (by decide) (by decide) (by decide)).trans j1, (i7 _ (by decide) (by decide) (by decide) (by decide) (by decide) (by decide)).trans j14⟩ ((i7 _ (by decide) (by decide) (by decide) (by decide) (by decide) (by decide)).trans j2) ((i7 _ (by decide) (by decide) (by decide) (by decide) (by decide) (by decide)).trans j3) ⟨(g5 _ (by decide) (by decide) (by decide)).trans k3, (g5 _ (by decide) (by decide) (by decide)).trans k4⟩ ⟨g3.1, g3.2, by omega⟩ ⟨g4.1, by omega, by omega⟩ ((i7 _ (by decide) (by decide) (by decide) (by decide) (by decide) (by decide)).trans j8) ((i7 _ (by decide) (by decide) (by decide) (by decide) (by decide) (by decide)).trans j9) ((i7 _ (by decide) (by decide) (by decide) (by decide) (by decide) (by decide)).trans j10) ((i7 _ (by decide) (by decide) (by decide) (by decide) (by decide) (by decide)).trans j11) (fun c c0 c1 => ?_) (fun v v0 v1 => ?_)
      · have := g10 c c0 c1
        rw [show 0 + dk_nv tx = dk_nv tx by omega] at this
        exact this
      · rw [g6 63 (by decide) (by decide) (by decide) (by decide) (by decide) (by decide) (by decide) (by decide) (by decide), g6 64 (by decide) (by decide) (by decide) (by decide) (by decide) (by decide) (by decide) (by decide) (by decide), g6 65 (by decide) (by decide) (by decide) (by decide) (by decide) (by decide) (by decide) (by decide) (by decide), o6 _ (by decide), o6 _ (by decide), o6 _ (by decide), b5, h5, t5]
        exact ⟨if_pos (by omega), if_pos (by omega), if_pos (by omega)⟩
    have htd7 : rm_td (dk_G S2 (dk_tp tau 12 tx)) ta nc A7 (0 + ((pt_gs (dk_f tx) 24 0).2.2.1.length : Int)) td (mo_start (dk_nv tx) (dk_gs (dk_tp tau 12 tx) 12)).2.2.2.2.2.2.1 := by
      show rm_td (dk_G S2 (dk_tp tau 12 tx)) ta nc A7 (0 + ((pt_gs (dk_f tx) 24 0).2.2.1.length : Int)) td (mo_bd (dk_gs (dk_tp tau 12 tx) 12) 0 0)
      rw [hgs]
      have hl2 : (mo_bd ((pt_gs (dk_f tx) 24 0).2.2.1.map (pt_abs 12)) 0 0).length = (pt_gs (dk_f tx) 24 0).2.2.1.length := by unfold mo_bd; rw [List.length_map, List.length_map]
      have := bg_chain (rest := []) _ 0 (Int.le_refl _) (by rw [hl2]; exact Int.le_refl _) (bg_bd q2) (show rm_td (dk_G S2 (dk_tp tau 12 tx)) ta nc A7 (0 + ((pt_gs (dk_f tx) 24 0).2.2.1.length : Int)) (-1) [] from rfl)
      rw [List.append_nil] at this
      have hnil : ((pt_gs (dk_f tx) 24 0).2.2.1.map (bg_f (dk_Tt 0 12) 0) = []) ↔ (mo_bd ((pt_gs (dk_f tx) 24 0).2.2.1.map (pt_abs 12)) 0 0 = []) := by
        rw [← List.length_eq_zero_iff, ← List.length_eq_zero_iff, hl2, hlen]
      by_cases e : (pt_gs (dk_f tx) 24 0).2.2.1.map (bg_f (dk_Tt 0 12) 0) = []
      · rw [if_pos (hnil.mp e)] at this
        rw [q3, if_pos e]
        exact this
      · rw [if_neg (fun q => e (hnil.mpr q))] at this
        rw [q3, if_neg e]
        exact this
    have a7 : ∀ q, q ≠ 57 → q ≠ 54 → q ≠ 63 → q ≠ 64 → q ≠ 65 → q ≠ 58 → q ≠ 59 → q ≠ 60 → q ≠ 61 → q ≠ 62 → q ≠ 56 → q ≠ 66 → q ≠ 67 → q ≠ 68 → q ≠ 69 → q ≠ 70 → A7 q = A q := fun q h1 h2 h3 h4 h5 h6 h7 h8 h9 h10 h11 h12 h13 h14 h15 h16 => (g6 q h8 h9 h10 h11 h12 h13 h14 h15 h16).trans ((o6 q h7).trans ((o5 q h3 h4 h5 h6).trans (a4o q h1 h2)))
    have hrp7 : rp (rm_u I7 29 td) A7 (dk_tp tau 12 tx) s m := by
      refine rp_e (tau := tau) ⟨⟨(i7 _ (by decide) (by decide) (by decide) (by decide) (by decide) (by decide)).trans j16, hrp.1.2⟩, fun i hi t ht => ?_⟩ (fun i hi => if_neg (by have := (hs.2 i hi).1; omega))
      obtain ⟨r1, r2⟩ := hrp.2 i hi t ht
      refine ⟨by rw [a7 _ (by decide) (by decide) (by decide) (by decide) (by decide) (by decide) (by decide) (by decide) (by decide) (by decide) (by decide) (by decide) (by decide) (by decide) (by decide) (by decide)]; exact r1, fun p p0 p1 => ?_⟩
      have h48 : t.length ≤ 48 := by
        have ht' : dk_tp tau 12 tx (s i) = some t := (if_neg (by have := (hs.2 i hi).1; omega)).trans ht
        exact (hU _ t ht').1.2.1
      have h12 := hrp.1.2
      rw [g6 54 (by decide) (by decide) (by decide) (by decide) (by decide) (by decide) (by decide) (by decide) (by decide), o6 _ (by decide), o5 _ (by decide) (by decide) (by decide) (by decide), a4n _ (by omega)]
      exact r2 p p0 p1
    have hSk := rx_seek0 (L := L) (xs := xs) (S := S) d hS hU hs' hrp7 hMI hX7 htd7
    refine ty_putI (pc := 179) (idx := 270) (ci := 13) (f := 29) (by decide +kernel) (by first | rfl | assumption) rfl rfl (by first | exact hS.1 _ _ rfl | assumption) ?_
    rw [rm_sI]
    refine ty_aload_n (pc := 182) (i := 0) (ks := []) (by decide +kernel) rfl ?_
    refine ty_iconst (pc := 183) (n := 0) (ks := []) (by decide +kernel) ?_
    -- at 184: .invokevirtual 320
    refine ty_callv (pc := 184) (idx := 320) (m := 124) (n := 2) (c := 13) (vs := [_]) (r := []) (by decide +kernel) rfl rfl (Nat.le_of_ble_eq_true rfl) (by first | rfl | assumption) (by first | exact hS.1 _ _ rfl | assumption) hSk ?_
    rintro _ S1 ⟨z, rfl, I8, A8, rfl, hE8, h8⟩
    refine ty_KI ?_
    refine ty_ret_i (pc := 187) (ks := []) (ty := .int) (by decide +kernel) rfl rfl ?_
    refine ⟨z, rfl, I8, A8, rfl, .inr ⟨hbr, ?_⟩⟩
    refine rk_of (I := rm_u I7 29 td) (A := A7) (q := tx) hs' ⟨?_, by decide, fun c hc => (nomatch hc), trivial⟩ ?_ hrp7 ht12 (fun v v0 v1 => ?_) ?_ (fun h1 => ?_) hE8 h8
    · exact (i7 _ (by decide) (by decide) (by decide) (by decide) (by decide) (by decide)).trans j12
    · exact (i7 _ (by decide) (by decide) (by decide) (by decide) (by decide) (by decide)).trans j15
    · rw [g6 59 (by decide) (by decide) (by decide) (by decide) (by decide) (by decide) (by decide) (by decide) (by decide), q6 v v0 v1]
      unfold dk_rk
      rw [ht12]
      have := hmp v.toNat (by omega)
      rw [show ((v.toNat : Nat) : Int) = v by omega] at this
      rw [this]
      show _ = pv_r (dk_f tx) tx.length v.toNat
      unfold pv_r
      by_cases e : pv_oc (dk_f tx) tx.length v.toNat = true
      · rw [if_pos e, if_pos e]; omega
      · rw [if_neg e, if_neg e]
    · exact (i7 _ (by decide) (by decide) (by decide) (by decide) (by decide) (by decide)).trans j13
    · exact mo_seek_Q (dk_PW hU hs') (dk_PG hU hs') _ _ _ hMI ⟨Int.le_refl _, fun c hc => (nomatch hc)⟩ (.inr h1)
  · rw [if_neg hb] at hz
    subst hz
    have hbf : (pt_gs (dk_f tx) 24 0).1 = false := by simpa using hb
    have hbr : (dk_r 12 tx).1 = false := by rw [er]; exact hbf
    refine ty_istore_n (pc := 9) (i := 1) (ks := []) (ls' := [_, _, _, _]) (by decide +kernel) rfl ?_
    refine ty_iload_n (pc := 10) (i := 1) (ks := []) (by decide +kernel) rfl ?_
    -- at 11: .ifCond .ne 11
    refine ty_if_ne (pc := 11) (off := 11) (t := 22) (ks := []) (by decide +kernel) (by omega) (fun hc => ?_) (fun hc => ?_)
    · exact absurd rfl hc
    clear hc
    refine ty_aload_n (pc := 14) (i := 0) (ks := []) (by decide +kernel) rfl ?_
    refine ty_aload_n (pc := 15) (i := 0) (ks := []) (by decide +kernel) rfl ?_
    refine ty_getI (pc := 16) (idx := 153) (ci := 13) (f := 10) (by decide +kernel) (by first | rfl | assumption) rfl (by first | exact hS.1 _ _ rfl | assumption) (fun v hv => ?_)
    simp (decide := true) only [rm_I, rm_u, rm_w, ty_sI, ty_sR, ty_sA, ty_sQ, ty_mA, ty_mQ, ↓reduceIte, false_and, and_false, true_and, and_true, and_self] at hv
    subst hv
    refine ty_putI (pc := 19) (idx := 31) (ci := 13) (f := 9) (by decide +kernel) (by first | rfl | assumption) rfl rfl (by first | exact hS.1 _ _ rfl | assumption) ?_
    rw [rm_sI]
    refine ty_aload_n (pc := 22) (i := 0) (ks := []) (by decide +kernel) rfl ?_
    refine ty_getI (pc := 23) (idx := 146) (ci := 13) (f := 7) (by decide +kernel) (by first | rfl | assumption) rfl (by first | exact hS.1 _ _ rfl | assumption) (fun v hv => ?_)
    simp (decide := true) only [rm_I, rm_u, rm_w, ty_sI, ty_sR, ty_sA, ty_sQ, ty_mA, ty_mQ, ↓reduceIte, false_and, and_false, true_and, and_true, and_self] at hv
    subst hv
    refine ty_istore_n (pc := 26) (i := 2) (ks := []) (ls' := [_, _, _, _]) (by decide +kernel) rfl ?_
    refine ty_aload_n (pc := 27) (i := 0) (ks := []) (by decide +kernel) rfl ?_
    refine ty_iconst (pc := 28) (n := 0) (ks := []) (by decide +kernel) ?_
    refine ty_putI (pc := 29) (idx := 146) (ci := 13) (f := 7) (by decide +kernel) (by first | rfl | assumption) rfl rfl (by first | exact hS.1 _ _ rfl | assumption) ?_
    rw [rm_sI]
    refine ty_aload_n (pc := 32) (i := 0) (ks := []) (by decide +kernel) rfl ?_
    refine ty_iload_n (pc := 33) (i := 1) (ks := []) (by decide +kernel) rfl ?_
    refine ty_putZ (pc := 34) (idx := 177) (ci := 13) (f := 38) (by decide +kernel) (by first | rfl | assumption) rfl rfl (by first | exact hS.1 _ _ rfl | assumption) (by omega) ?_
    rw [rm_sI]
    refine ty_aload_n (pc := 37) (i := 0) (ks := []) (by decide +kernel) rfl ?_
    refine ty_iload_n (pc := 38) (i := 1) (ks := []) (by decide +kernel) rfl ?_
    -- at 39: .invokevirtual 142
    rw [z1]
    refine ty_callv (pc := 39) (idx := 142) (m := 106) (n := 2) (c := 13) (vs := [_]) (r := []) (by decide +kernel) rfl rfl (Nat.le_of_ble_eq_true rfl) (by first | rfl | assumption) (by first | exact hS.1 _ _ rfl | assumption) ((rm_bad (L := L) (xs := xs) 0 hS (f := 0) (.inl rfl)).deeper (by omega)) ?_
    rintro _ S1 ⟨z, rfl, hz, rfl⟩
    have hz : z = 1 := by omega
    subst hz
    refine ty_KI ?_
    refine ty_if_eq (pc := 42) (off := 5) (t := 47) (ks := []) (by decide +kernel) (by omega) (fun hc => ?_) (fun hc => ?_)
    · exact absurd hc (by decide)
    clear hc
    refine ty_iconst (pc := 45) (n := 0) (ks := []) (by decide +kernel) ?_
    -- at 46: .ireturn
    refine ty_ret_i (pc := 46) (ks := []) (ty := .int) (by decide +kernel) rfl rfl ?_
    refine ⟨0, rfl, _, _, rfl, .inl ⟨hbr, rfl, ⟨rfl, by decide, fun c hc => (nomatch hc), trivial⟩, by rw [er]; rfl, ?_, hE, rfl, trivial⟩⟩
    refine rp_e (tau := tau) ⟨hrp.1, fun i hi t ht => hrp.2 i hi t ht⟩ (fun i hi => if_neg (by have := (hs.2 i hi).1; omega))
theorem rm_next (d : Nat) (hS : ty_st S) (hR : rm_R S0 I A tau s tx pl m as) (hs : dk_s tau s m) (hU : dk_U S0 tau) (hMI : ∀ M, as = some M → mo_MI (dk_P S0 tau s m) M) :
    ty_C L xs (d + 11) 144 [.inr (.inr (some (94, 0)))] (rm_s S I A) (ty_oI fun z S' => ∃ I' A', S' = rm_s S I' A' ∧ ((as = none ∧ I' 11 = 1 ∧ rm_R S0 I' A' tau s tx pl m none) ∨ (∃ M, as = some M ∧ rk_p S0 I' A' tau s tx pl m (mo_seek (dk_P S0 tau s m) 1000000 false M) z 1))) := by
  have hR0 := hR
  obtain ⟨hX, hpl, hrp, hE, hask, hA⟩ := hR
  cases as with
  | none =>
    have hask : I 38 = 0 := hask
    refine ty_enter (ml := 2) (ls := [_, _]) rfl rfl (Nat.le_of_ble_eq_true rfl) ?_
    refine ty_aload_n (pc := 0) (i := 0) (ks := []) (by decide +kernel) rfl ?_
    refine ty_iconst (pc := 1) (n := 0) (ks := []) (by decide +kernel) ?_
    refine ty_putI (pc := 2) (idx := 135) (ci := 13) (f := 11) (by decide +kernel) (by first | rfl | assumption) rfl rfl (by first | exact hS.1 _ _ rfl | assumption) ?_
    rw [rm_sI]
    refine ty_aload_n (pc := 5) (i := 0) (ks := []) (by decide +kernel) rfl ?_
    refine ty_getI (pc := 6) (idx := 177) (ci := 13) (f := 38) (by decide +kernel) (by first | rfl | assumption) rfl (by first | exact hS.1 _ _ rfl | assumption) (fun v hv => ?_)
    simp (decide := true) only [rm_I, rm_u, rm_w, ty_sI, ty_sR, ty_sA, ty_sQ, ty_mA, ty_mQ, ↓reduceIte, false_and, and_false, true_and, and_true, and_self] at hv
    subst hv
    -- at 9: .ifCond .ne 9
    rw [hask]
    refine ty_if_ne (pc := 9) (off := 9) (t := 18) (ks := []) (by decide +kernel) (by omega) (fun hc => ?_) (fun hc => ?_)
    · exact absurd rfl hc
    clear hc
    refine ty_aload_n (pc := 12) (i := 0) (ks := []) (by decide +kernel) rfl ?_
    refine ty_iconst (pc := 13) (n := 1) (ks := []) (by decide +kernel) ?_
    -- at 14: .invokevirtual 149
    refine ty_callv (pc := 14) (idx := 149) (m := 107) (n := 2) (c := 13) (vs := [_]) (r := []) (by decide +kernel) rfl rfl (Nat.le_of_ble_eq_true rfl) (by first | rfl | assumption) (by first | exact hS.1 _ _ rfl | assumption) ((rm_fail (L := L) (xs := xs) 0 hS (c := 1)).deeper (by omega)) ?_
    rintro _ S1 ⟨z, rfl, rfl, rfl⟩
    refine ty_KI ?_
    refine ty_ret_i (pc := 17) (ks := []) (ty := .int) (by decide +kernel) rfl rfl ?_
    exact ⟨0, rfl, _, A, rfl, .inl ⟨rfl, rfl, rm_R_thr (rm_R_thr hR0)⟩⟩
  | some M =>
    have hask : I 38 = 1 := hask
    obtain ⟨⟨q, hq, hQ⟩, hqu, ta, rl, nc, ng, na, hX1⟩ := hA
    have hMI := hMI M rfl
    have hSk := rx_seek1 (L := L) (xs := xs) (S := S) (I := rm_u I 11 0) (A := A) d hS hU hs hrp hMI hX1
    refine ty_enter (ml := 2) (ls := [_, _]) rfl rfl (Nat.le_of_ble_eq_true rfl) ?_
    refine ty_aload_n (pc := 0) (i := 0) (ks := []) (by decide +kernel) rfl ?_
    refine ty_iconst (pc := 1) (n := 0) (ks := []) (by decide +kernel) ?_
    refine ty_putI (pc := 2) (idx := 135) (ci := 13) (f := 11) (by decide +kernel) (by first | rfl | assumption) rfl rfl (by first | exact hS.1 _ _ rfl | assumption) ?_
    rw [rm_sI]
    refine ty_aload_n (pc := 5) (i := 0) (ks := []) (by decide +kernel) rfl ?_
    refine ty_getI (pc := 6) (idx := 177) (ci := 13) (f := 38) (by decide +kernel) (by first | rfl | assumption) rfl (by first | exact hS.1 _ _ rfl | assumption) (fun v hv => ?_)
    simp (decide := true) only [rm_I, rm_u, rm_w, ty_sI, ty_sR, ty_sA, ty_sQ, ty_mA, ty_mQ, ↓reduceIte, false_and, and_false, true_and, and_true, and_self] at hv
    subst hv
    -- at 9: .ifCond .ne 9
    rw [hask]
    refine ty_if_ne (pc := 9) (off := 9) (t := 18) (ks := []) (by decide +kernel) (by omega) (fun hc => ?_) (fun hc => ?_)
    rotate_left
    · exact absurd hc (by decide)
    clear hc
    refine ty_aload_n (pc := 18) (i := 0) (ks := []) (by decide +kernel) rfl ?_
    refine ty_iconst (pc := 19) (n := 1) (ks := []) (by decide +kernel) ?_
    -- at 20: .invokevirtual 320
    refine ty_callv (pc := 20) (idx := 320) (m := 124) (n := 2) (c := 13) (vs := [_]) (r := []) (by decide +kernel) rfl rfl (Nat.le_of_ble_eq_true rfl) (by first | rfl | assumption) (by first | exact hS.1 _ _ rfl | assumption) hSk ?_
    rintro _ S1 ⟨z, rfl, I8, A8, rfl, hE8, h8⟩
    refine ty_KI ?_
    have hk := rk_of (I := rm_u I 11 0) (A := A) (q := q) (tx := tx) (pl := pl) hs hX hpl hrp hq hqu hask (fun h1 => mo_seek_Q (dk_PW hU hs) (dk_PG hU hs) _ _ _ hMI hQ (.inr h1)) hE8 h8
    obtain ⟨k1, k2⟩ := hk
    generalize hRR : mo_seek (dk_P S0 tau s m) 1000000 false M = R at k1 k2
    have htr : 0 ≤ I8 11 ∧ I8 11 ≤ 4 := by omega
    refine ty_istore_n (pc := 23) (i := 1) (ks := []) (ls' := [_, _]) (by decide +kernel) rfl ?_
    refine ty_aload_n (pc := 24) (i := 0) (ks := []) (by decide +kernel) rfl ?_
    refine ty_getI (pc := 25) (idx := 135) (ci := 13) (f := 11) (by decide +kernel) (by first | rfl | assumption) rfl (by first | exact hS.1 _ _ rfl | assumption) (fun v hv => ?_)
    simp (decide := true) only [rm_I, rm_u, rm_w, ty_sI, ty_sR, ty_sA, ty_sQ, ty_mA, ty_mQ, ↓reduceIte, false_and, and_false, true_and, and_true, and_self] at hv
    subst hv
    -- at 28: .ifCond .le 13
    refine ty_if_le (pc := 28) (off := 13) (t := 41) (ks := []) (by decide +kernel) (by omega) (fun hc => ?_) (fun hc => ?_)
    · refine ty_iload_n (pc := 41) (i := 1) (ks := []) (by decide +kernel) rfl ?_
      -- at 42: .ireturn
      refine ty_ret_i (pc := 42) (ks := []) (ty := .int) (by decide +kernel) rfl rfl ?_
      refine ⟨z, rfl, I8, A8, rfl, .inr ⟨M, rfl, ?_⟩⟩
      rw [hRR]
      exact ⟨k1, .inl (by omega)⟩
    · refine ty_aload_n (pc := 31) (i := 0) (ks := []) (by decide +kernel) rfl ?_
      refine ty_dup (pc := 32) (ks := []) (by decide +kernel) rfl ?_
      refine ty_getI (pc := 33) (idx := 135) (ci := 13) (f := 11) (by decide +kernel) (by first | rfl | assumption) rfl (by first | exact hS.1 _ _ rfl | assumption) (fun v hv => ?_)
      simp (decide := true) only [rm_I, rm_u, rm_w, ty_sI, ty_sR, ty_sA, ty_sQ, ty_mA, ty_mQ, ↓reduceIte, false_and, and_false, true_and, and_true, and_self] at hv
      subst hv
      refine ty_iconst (pc := 36) (n := 1) (ks := []) (by decide +kernel) ?_
      refine ty_isub (pc := 37) (ks := []) (by decide +kernel) ?_
      refine ty_putI (pc := 38) (idx := 135) (ci := 13) (f := 11) (by decide +kernel) (by first | rfl | assumption) rfl rfl (by first | exact hS.1 _ _ rfl | assumption) ?_
      rw [rm_sI]
      refine ty_iload_n (pc := 41) (i := 1) (ks := []) (by decide +kernel) rfl ?_
      -- at 42: .ireturn
      refine ty_ret_i (pc := 42) (ks := []) (ty := .int) (by decide +kernel) rfl rfl ?_
      refine ⟨z, rfl, _, A8, rfl, .inr ⟨M, rfl, ?_⟩⟩
      rw [hRR]
      refine ⟨rm_R_thr k1, .inr ?_⟩
      show (R.1 = 0 ∧ I8 11 - 1 = 2 - 1) ∨ (R.1 = 2 ∧ I8 11 - 1 = 3 - 1) ∨ (R.1 = 3 ∧ I8 11 - 1 = 4 - 1)
      omega
end RMK
