/-! The reference performs a goal. -/
theorem rx_k.refl {made ns na nc ng nch TL : Int} {ta : Int → Int} {A : Nat → Int → Int} : rx_k made ns na nc ng nch TL ta A TL ta A := ⟨fun _ _ _ => ⟨rfl, rfl, rfl⟩, fun _ _ _ => rfl, fun _ _ _ => ⟨rfl, rfl, rfl, rfl, rfl⟩, fun _ _ _ => rfl, fun _ _ _ => ⟨rfl, rfl⟩, fun _ _ _ => ⟨rfl, rfl, rfl, rfl, rfl, rfl, rfl, rfl, rfl⟩, fun _ _ _ _ _ _ => rfl⟩
theorem rx_C_up {G : mo_G} {sl al ar rl ta : Int → Int} {A : Nat → Int → Int} {TL st : Int} : ∀ (cs : List mo_Ch) (nc ng na tl nc' ng' na' tl' : Int), rx_C G sl al ar rl ta A TL st nc ng na tl cs → nc ≤ nc' → ng ≤ ng' → na ≤ na' → tl ≤ tl' → rx_C G sl al ar rl ta A TL st nc' ng' na' tl' cs
  | [], _, _, _, _, _, _, _, _, _, _, _, _, _ => trivial
  | (t, i, todo, V) :: cs, nc, ng, na, tl, nc', ng', na', tl', h, h1, h2, h3, h4 => by
    obtain ⟨x, nc1, ng1, na1, tl1, b1, b2, b3, b4, b5, b6⟩ := h
    exact ⟨x, nc1, ng1, na1, tl1, b1, by omega, by omega, by omega, by omega, b6⟩
theorem rx_C_drop {G : mo_G} {sl al ar rl ta : Int → Int} {A : Nat → Int → Int} {TL st : Int} : ∀ (k : Nat) (cs : List mo_Ch) (nc ng na tl : Int), rx_C G sl al ar rl ta A TL st nc ng na tl cs → rx_C G sl al ar rl ta A TL st nc ng na tl (cs.drop k)
  | 0, _, _, _, _, _, h => h
  | _ + 1, [], _, _, _, _, _ => trivial
  | k + 1, (t, i, todo, V) :: cs, nc, ng, na, tl, h => by
    obtain ⟨x, nc1, ng1, na1, tl1, b1, b2, b3, b4, b5, b6, b7, b8, b9⟩ := h
    exact rx_C_drop k cs nc ng na tl (rx_C_up cs nc1 ng1 na1 tl1 _ _ _ _ b9 b2.2.1 b3.2.1 b4.2 b5.2)
theorem rx_S_step {P : mo_P} (hw : mo_wf P.1) {I : Nat → Int} {A : Nat → Int → Int} {ta rl : Int → Int} {nc ng na : Int} {st came : Int} {sl al ar : Int → Int} {V : mo_V} {g : mo_Go} {todo : List mo_Go} {cs : List mo_Ch} {ans : Int} (hMI : mo_MI P (st, came, sl, al, ar, V, g :: todo, cs, ans)) (h : rx_S I A P.1 ta rl nc ng na (st, came, sl, al, ar, V, g :: todo, cs, ans)) (hst : st < 500) : rx_S (rm_u I 30 (st + 1)) A P.1 ta rl nc ng na (st + 1, came, sl, al, ar, V, todo, cs, ans) := by
  obtain ⟨b1, b2, b3, b4⟩ := hMI
  obtain ⟨x1, x2, x3, x4, x5, x6, x7, x8, x9, x10, x11, x12⟩ := h
  simp only at b1 b2 b4 x2 x3 x5 x6 x12
  refine ⟨x1, ⟨rfl, show 0 ≤ st + 1 by omega, show st + 1 ≤ 500 by omega⟩, ⟨⟨x3.1.1, show I 32 ≤ 4 * (st + 1) by omega⟩, x3.2⟩, x4, ⟨x5.1, x5.2.1, show nc ≤ 24 + 24 * (st + 1) by omega⟩, ⟨x6.1, x6.2.1, show ng ≤ 24 + 24 * (st + 1) + V.2.2.2.2.1.length by omega⟩, x7, x8, x9, x10, x11, ?_⟩
  exact rx_C_k hw (show st ≤ st + 1 by omega) (Int.le_refl _) cs _ _ _ nc ng na (I 32) _ _ _ _ b4 x12 rx_k.refl (fun _ _ _ => rfl) (fun _ _ _ => ⟨rfl, rfl⟩) (fun _ _ _ => rfl) (Int.le_refl _) (Int.le_refl _) (Int.le_refl _) (Int.le_refl _) (Int.le_refl _)
theorem rx_S_cut {G : mo_G} {I : Nat → Int} {A : Nat → Int → Int} {ta rl : Int → Int} {nc ng na : Int} {st came : Int} {sl al ar : Int → Int} {V : mo_V} {todo : List mo_Go} {cs : List mo_Ch} {ans : Int} (h : rx_S I A G ta rl nc ng na (st, came, sl, al, ar, V, todo, cs, ans)) {k : Nat} {v w : Int} (hv : v = ((cs.drop k).length : Int)) : rx_S (rm_u (rm_u I 33 v) 29 w) A G ta rl nc ng na (st, came, sl, al, ar, V, todo, cs.drop k, ans) := by
  obtain ⟨x1, x2, x3, x4, x5, x6, x7, x8, x9, x10, x11, x12⟩ := h
  exact ⟨x1, x2, x3, x4, x5, x6, x7, x8, hv, x10, x11, rx_C_drop k cs _ _ _ _ x12⟩
theorem mo_round_1 {P : mo_P} {M : mo_M} {M1 : mo_M} {ps : List (Int × Int)} {tk : Option (Int × Int × Int)} (h : mo_first P M = (1, M1, ps, tk)) : mo_round P true M = mo_fin P M1 ps (mo_bdy P tk) (mo_an M) := by
  unfold mo_round
  rw [if_pos rfl, h]
  show (if (1 : Int) = 1 then _ else _) = _
  rw [if_pos rfl]
theorem mo_round_n {P : mo_P} {M : mo_M} {M1 : mo_M} {c : Int} {ps : List (Int × Int)} {tk : Option (Int × Int × Int)} (h : mo_first P M = (c, M1, ps, tk)) (hc : c ≠ 1) : mo_round P true M = (c, M1) := by
  unfold mo_round
  rw [if_pos rfl, h]
  show (if c = 1 then _ else _) = _
  rw [if_neg hc]
section RXP
variable {L : Nat} {xs : Nat → Int32} {S S0 : ty_S} {tau : dk_T} {s : Nat → Nat} {m : Nat}
theorem rx_perform (d : Nat) (hS : ty_st S) (hU : dk_U S0 tau) (hs : dk_s tau s m) {I : Nat → Int} {A : Nat → Int → Int} (hrp : rp I A tau s m) {ta rl : Int → Int} {nc ng na : Int} {st came : Int} {sl al ar : Int → Int} {made : Int} {bd : Int → Int} {ch : Int → List Int} {ns : Int} {dn : List Int} {an : Int} {aw : Int → Bool} {g : mo_Go} {todo : List mo_Go} {cs : List mo_Ch} {ans : Int} (hMI : mo_MI (dk_P S0 tau s m) (st, came, sl, al, ar, (made, bd, ch, ns, dn, an, aw), g :: todo, cs, ans)) (hX : rx_S I A (dk_G S0 tau) ta rl nc ng na (st, came, sl, al, ar, (made, bd, ch, ns, dn, an, aw), g :: todo, cs, ans)) (hst : st < 500) {p : Int} (htd : rm_td (dk_G S0 tau) ta nc A ng p (g :: todo)) :
    ty_C L xs (d + 9) 139 [.inr (.inr (some (94, 0))), .inl (ty_J p)] (rm_s S (rm_u I 30 (st + 1)) A) (rx_p S I A (dk_P S0 tau s m) (mo_round (dk_P S0 tau s m) true (st, came, sl, al, ar, (made, bd, ch, ns, dn, an, aw), g :: todo, cs, ans))) := by
  have hW := dk_PW hU hs
  have hw : mo_wf (dk_G S0 tau) := dk_wf hU
  obtain ⟨sg, l, r, b⟩ := g
  have hMI1 := mo_step_MI hMI hst
  have hX1 := rx_S_step (P := dk_P S0 tau s m) hw hMI hX hst
  have hdn := rx_dn hMI
  have hK : rx_K I A (rm_u I 30 (st + 1)) A := ⟨⟨rfl, rfl, rfl, rfl⟩, rfl, rfl, rfl, rfl⟩
  have hrp1 := rp_K hrp hK
  have hE1 : rx_E (rm_u I 30 (st + 1)) := rx_S.E (P := dk_P S0 tau s m) hX1 hMI1
  obtain ⟨t1, t2, t3, t4⟩ := htd
  have hgo : mo_go (dk_G S0 tau) made (sg, l, r, b) := hMI.2.2.1.2.2.2.2.2.2.2 _ List.mem_cons_self
  obtain ⟨c3, c4⟩ := hgo
  simp only at c3 c4 hdn
  have hb1 := hMI.1
  have hb2 := hMI.2.1
  simp only at hb1 hb2
  obtain ⟨x1, x2, x3, x4, x5, x6, x7, x8, x9, x10, -, -⟩ := hX
  simp only at x2 x3 x4 x5 x6 x7 x8 x9 x10
  have he0 : ¬ 500 ≤ st := by omega
  have hng : ng ≤ 24 * (st + 1) + dn.length := by omega
  have hnc : nc ≤ 24 * (st + 1) := by omega
  have hmd : made ≤ 24 * (st + 1) := by omega
  generalize hR : mo_round (dk_P S0 tau s m) true (st, came, sl, al, ar, (made, bd, ch, ns, dn, an, aw), (sg, l, r, b) :: todo, cs, ans) = R
  -- a result is handed on
  refine ty_enter (ml := 5) (ls := [_, _, _, _, _]) rfl rfl (Nat.le_of_ble_eq_true rfl) ?_
  refine ty_aload_n (pc := 0) (i := 0) (ks := []) (by decide +kernel) rfl ?_
  refine ty_getS (b := (70, 0)) (pc := 1) (idx := 66) (ci := 13) (f := 24) (by decide +kernel) (by first | rfl | assumption) rfl (by first | exact hS.1 _ _ rfl | assumption) (by first | exact hS.2.2 _ _ _ _ rfl | assumption) ?_
  refine ty_iload_n (pc := 4) (i := 1) (ks := []) (by decide +kernel) rfl ?_
  refine ty_iaload (pc := 5) (ks := []) (by decide +kernel) (by first | rfl | assumption) (by rfl) (by first | exact hS.1 _ _ rfl | assumption) (by first | exact hS.2.1 _ _ _ rfl | assumption) (by omega) (fun v hv => ?_)
  rw [rm_A (by decide)] at hv
  first | (simp (decide := true) only [rm_w, ty_sI, ty_sR, ty_sA, ty_sQ, ty_mA, ty_mQ, ↓reduceIte, false_and, and_false, true_and, and_true, and_self] at hv) | skip
  subst hv
  refine ty_istore_n (pc := 6) (i := 2) (ks := []) (ls' := [_, _, _, _, _]) (by decide +kernel) rfl ?_
  refine ty_aload_n (pc := 7) (i := 0) (ks := []) (by decide +kernel) rfl ?_
  refine ty_getS (b := (67, 0)) (pc := 8) (idx := 57) (ci := 13) (f := 21) (by decide +kernel) (by first | rfl | assumption) rfl (by first | exact hS.1 _ _ rfl | assumption) (by first | exact hS.2.2 _ _ _ _ rfl | assumption) ?_
  refine ty_iload_n (pc := 11) (i := 1) (ks := []) (by decide +kernel) rfl ?_
  refine ty_iaload (pc := 12) (ks := []) (by decide +kernel) (by first | rfl | assumption) (by rfl) (by first | exact hS.1 _ _ rfl | assumption) (by first | exact hS.2.1 _ _ _ rfl | assumption) (by omega) (fun v hv => ?_)
  rw [rm_A (by decide)] at hv
  first | (simp (decide := true) only [rm_w, ty_sI, ty_sR, ty_sA, ty_sQ, ty_mA, ty_mQ, ↓reduceIte, false_and, and_false, true_and, and_true, and_self] at hv) | skip
  subst hv
  refine ty_istore_n (pc := 13) (i := 3) (ks := []) (ls' := [_, _, _, _, _]) (by decide +kernel) rfl ?_
  refine ty_aload_n (pc := 14) (i := 0) (ks := []) (by decide +kernel) rfl ?_
  refine ty_getS (b := (68, 0)) (pc := 15) (idx := 60) (ci := 13) (f := 22) (by decide +kernel) (by first | rfl | assumption) rfl (by first | exact hS.1 _ _ rfl | assumption) (by first | exact hS.2.2 _ _ _ _ rfl | assumption) ?_
  refine ty_iload_n (pc := 18) (i := 1) (ks := []) (by decide +kernel) rfl ?_
  refine ty_iaload (pc := 19) (ks := []) (by decide +kernel) (by first | rfl | assumption) (by rfl) (by first | exact hS.1 _ _ rfl | assumption) (by first | exact hS.2.1 _ _ _ rfl | assumption) (by omega) (fun v hv => ?_)
  rw [rm_A (by decide)] at hv
  first | (simp (decide := true) only [rm_w, ty_sI, ty_sR, ty_sA, ty_sQ, ty_mA, ty_mQ, ↓reduceIte, false_and, and_false, true_and, and_true, and_self] at hv) | skip
  subst hv
  refine ty_istore (pc := 20) (i := 4) (ks := []) (ls' := [_, _, _, _, _]) (by decide +kernel) rfl ?_
  refine ty_aload_n (pc := 22) (i := 0) (ks := []) (by decide +kernel) rfl ?_
  refine ty_getS (b := (66, 0)) (pc := 23) (idx := 54) (ci := 13) (f := 20) (by decide +kernel) (by first | rfl | assumption) rfl (by first | exact hS.1 _ _ rfl | assumption) (by first | exact hS.2.2 _ _ _ _ rfl | assumption) ?_
  refine ty_iload_n (pc := 26) (i := 1) (ks := []) (by decide +kernel) rfl ?_
  refine ty_iaload (pc := 27) (ks := []) (by decide +kernel) (by first | rfl | assumption) (by rfl) (by first | exact hS.1 _ _ rfl | assumption) (by first | exact hS.2.1 _ _ _ rfl | assumption) (by omega) (fun v hv => ?_)
  rw [rm_A (by decide)] at hv
  first | (simp (decide := true) only [rm_w, ty_sI, ty_sR, ty_sA, ty_sQ, ty_mA, ty_mQ, ↓reduceIte, false_and, and_false, true_and, and_true, and_self] at hv) | skip
  subst hv
  -- at 28: .tableswitch 109 0 4 #[36, 66, 73, 91, 100]
  rcases t3 with ⟨e1, e2, e3⟩ | ⟨e1, e2, e3, e4⟩ | ⟨e1, e2, e3⟩
  · simp only at e1 e2 e3
    subst e1
    rw [e2]
    refine ty_jmp (pc := 28) (ins := .tableswitch 109 0 4 #[36, 66, 73, 91, 100]) (ks := [137, 64, 94, 101, 119, 128]) (pc' := 64) (st' := []) (by decide +kernel) (by rfl) ?_
    have hf : mo_first (dk_P S0 tau s m) (st, came, sl, al, ar, (made, bd, ch, ns, dn, an, aw), (33, l, r, b) :: todo, cs, ans) = (1, (st + 1, came, sl, al, ar, (made, bd, ch, ns, dn, an, aw), todo, cs.drop (cs.length - b.toNat), ans), [], none) := by
      unfold mo_first
      dsimp only
      rw [if_neg he0, if_pos rfl]
    have hR2 : R = (1, (st + 1, came, sl, al, ar, (made, bd, ch, ns, dn, an, aw), todo, cs.drop (cs.length - b.toNat), ans)) := hR.symm.trans ((mo_round_1 hf).trans (mo_fin_id (by omega)))
    subst hR2
    clear hR hf
    refine ty_aload_n (pc := 64) (i := 0) (ks := []) (by decide +kernel) rfl ?_
    refine ty_getI (pc := 65) (idx := 289) (ci := 13) (f := 33) (by decide +kernel) (by first | rfl | assumption) rfl (by first | exact hS.1 _ _ rfl | assumption) (fun v hv => ?_)
    simp (decide := true) only [rm_I, rm_u, rm_w, ty_sI, ty_sR, ty_sA, ty_sQ, ty_mA, ty_mQ, ↓reduceIte, false_and, and_false, true_and, and_true, and_self] at hv
    subst hv
    refine ty_aload_n (pc := 68) (i := 0) (ks := []) (by decide +kernel) rfl ?_
    refine ty_getS (b := (69, 0)) (pc := 69) (idx := 63) (ci := 13) (f := 23) (by decide +kernel) (by first | rfl | assumption) rfl (by first | exact hS.1 _ _ rfl | assumption) (by first | exact hS.2.2 _ _ _ _ rfl | assumption) ?_
    refine ty_iload_n (pc := 72) (i := 1) (ks := []) (by decide +kernel) rfl ?_
    refine ty_iaload (pc := 73) (ks := []) (by decide +kernel) (by first | rfl | assumption) (by rfl) (by first | exact hS.1 _ _ rfl | assumption) (by first | exact hS.2.1 _ _ _ rfl | assumption) (by omega) (fun v hv => ?_)
    rw [rm_A (by decide)] at hv
    first | (simp (decide := true) only [rm_w, ty_sI, ty_sR, ty_sA, ty_sQ, ty_mA, ty_mQ, ↓reduceIte, false_and, and_false, true_and, and_true, and_self] at hv) | skip
    subst hv
    -- at 74: .if_icmp .le 13
    rw [e3, x9]
    refine ty_icmp_le (pc := 74) (off := 13) (t := 87) (ks := []) (by decide +kernel) (by omega) (by omega) (fun hc => ?_) (fun hc => ?_)
    · refine ty_aload_n (pc := 87) (i := 0) (ks := []) (by decide +kernel) rfl ?_
      refine ty_iload_n (pc := 88) (i := 2) (ks := []) (by decide +kernel) rfl ?_
      refine ty_putI (pc := 89) (idx := 270) (ci := 13) (f := 29) (by decide +kernel) (by first | rfl | assumption) rfl rfl (by first | exact hS.1 _ _ rfl | assumption) ?_
      rw [rm_sI]
      refine ty_iconst (pc := 92) (n := 1) (ks := []) (by decide +kernel) ?_
      -- at 93: .ireturn
      refine ty_ret_i (pc := 93) (ks := []) (ty := .boolean) (by decide +kernel) rfl (ty_fit_z (by omega)) ?_
      have hk : cs.length - b.toNat = 0 := by omega
      rw [hk, List.drop_zero]
      exact ⟨1, rfl, rfl, _, A, rfl, ⟨⟨⟨rfl, rfl, rfl, rfl⟩, rfl, rfl, rfl, rfl⟩, hE1⟩, .inr (.inr (.inr ⟨rfl, ta, rl, nc, ng, na, rx_S_todo hX1, t4⟩))⟩
    · refine ty_aload_n (pc := 77) (i := 0) (ks := []) (by decide +kernel) rfl ?_
      refine ty_aload_n (pc := 78) (i := 0) (ks := []) (by decide +kernel) rfl ?_
      refine ty_getS (b := (69, 0)) (pc := 79) (idx := 63) (ci := 13) (f := 23) (by decide +kernel) (by first | rfl | assumption) rfl (by first | exact hS.1 _ _ rfl | assumption) (by first | exact hS.2.2 _ _ _ _ rfl | assumption) ?_
      refine ty_iload_n (pc := 82) (i := 1) (ks := []) (by decide +kernel) rfl ?_
      refine ty_iaload (pc := 83) (ks := []) (by decide +kernel) (by first | rfl | assumption) (by rfl) (by first | exact hS.1 _ _ rfl | assumption) (by first | exact hS.2.1 _ _ _ rfl | assumption) (by omega) (fun v hv => ?_)
      rw [rm_A (by decide)] at hv
      first | (simp (decide := true) only [rm_w, ty_sI, ty_sR, ty_sA, ty_sQ, ty_mA, ty_mQ, ↓reduceIte, false_and, and_false, true_and, and_true, and_self] at hv) | skip
      subst hv
      refine ty_putI (pc := 84) (idx := 289) (ci := 13) (f := 33) (by decide +kernel) (by first | rfl | assumption) rfl rfl (by first | exact hS.1 _ _ rfl | assumption) ?_
      rw [rm_sI]
      refine ty_aload_n (pc := 87) (i := 0) (ks := []) (by decide +kernel) rfl ?_
      refine ty_iload_n (pc := 88) (i := 2) (ks := []) (by decide +kernel) rfl ?_
      refine ty_putI (pc := 89) (idx := 270) (ci := 13) (f := 29) (by decide +kernel) (by first | rfl | assumption) rfl rfl (by first | exact hS.1 _ _ rfl | assumption) ?_
      rw [rm_sI]
      refine ty_iconst (pc := 92) (n := 1) (ks := []) (by decide +kernel) ?_
      -- at 93: .ireturn
      rw [e3]
      refine ty_ret_i (pc := 93) (ks := []) (ty := .boolean) (by decide +kernel) rfl (ty_fit_z (by omega)) ?_
      exact ⟨1, rfl, rfl, _, A, rfl, ⟨⟨⟨rfl, rfl, rfl, rfl⟩, rfl, rfl, rfl, rfl⟩, ⟨hE1.1.1, c4⟩, hE1.2⟩, .inr (.inr (.inr ⟨rfl, ta, rl, nc, ng, na, rx_S_cut hX1 (by rw [List.length_drop]; omega), t4⟩))⟩
  · simp only at e1 e2 e3 e4
    subst e1
    rw [e2]
    refine ty_jmp (pc := 28) (ins := .tableswitch 109 0 4 #[36, 66, 73, 91, 100]) (ks := [137, 64, 94, 101, 119, 128]) (pc' := 94) (st' := []) (by decide +kernel) (by rfl) ?_
    obtain ⟨-, okl, okr⟩ := c3.resolve_left (by decide)
    have hR2 : R = if mo_next (dk_P S0 tau s m) l 0 = -1 then (0, (st + 1, came, sl, al, ar, (made, bd, ch, ns, dn, an, aw), todo, cs, ans)) else mo_fin (dk_P S0 tau s m) (mo_ta (dk_P S0 tau s m) (st + 1, came, sl, al, ar, (made, bd, ch, ns, dn, an, aw), todo, (if mo_next (dk_P S0 tau s m) l (mo_next (dk_P S0 tau s m) l 0 + 1) = -1 then cs else (l, mo_next (dk_P S0 tau s m) l (mo_next (dk_P S0 tau s m) l 0 + 1), todo, (made, bd, ch, ns, dn, an, aw)) :: cs), ans) l (mo_next (dk_P S0 tau s m) l 0) cs.length).2.1 (mo_ta (dk_P S0 tau s m) (st + 1, came, sl, al, ar, (made, bd, ch, ns, dn, an, aw), todo, (if mo_next (dk_P S0 tau s m) l (mo_next (dk_P S0 tau s m) l 0 + 1) = -1 then cs else (l, mo_next (dk_P S0 tau s m) l (mo_next (dk_P S0 tau s m) l 0 + 1), todo, (made, bd, ch, ns, dn, an, aw)) :: cs), ans) l (mo_next (dk_P S0 tau s m) l 0) cs.length).2.2.1 (mo_bdy (dk_P S0 tau s m) (mo_ta (dk_P S0 tau s m) (st + 1, came, sl, al, ar, (made, bd, ch, ns, dn, an, aw), todo, (if mo_next (dk_P S0 tau s m) l (mo_next (dk_P S0 tau s m) l 0 + 1) = -1 then cs else (l, mo_next (dk_P S0 tau s m) l (mo_next (dk_P S0 tau s m) l 0 + 1), todo, (made, bd, ch, ns, dn, an, aw)) :: cs), ans) l (mo_next (dk_P S0 tau s m) l 0) cs.length).2.2.2) an := by
      rw [← hR]
      by_cases e : mo_next (dk_P S0 tau s m) l 0 = -1
      · rw [if_pos e]
        refine mo_round_n (c := 0) (ps := []) (tk := none) ?_ (by decide)
        unfold mo_first
        dsimp only
        rw [if_neg he0, if_neg (by decide), if_pos rfl, if_pos e]
      · rw [if_neg e]
        refine mo_round_1 (P := dk_P S0 tau s m) ?_
        unfold mo_first
        dsimp only
        rw [if_neg he0, if_neg (by decide), if_pos rfl, if_neg e]
        rfl
    have hC := rx_call (L := L) (xs := xs) (S := S) d hS hU hs hrp1 hMI1 hX1 hnc hng hmd (by omega) okl e3 e4 t4 hR2
    clear hR hR2
    refine ty_aload_n (pc := 94) (i := 0) (ks := []) (by decide +kernel) rfl ?_
    refine ty_iload_n (pc := 95) (i := 3) (ks := []) (by decide +kernel) rfl ?_
    refine ty_iload_n (pc := 96) (i := 2) (ks := []) (by decide +kernel) rfl ?_
    -- at 97: .invokevirtual 299
    refine ty_callv (pc := 97) (idx := 299) (m := 140) (n := 3) (c := 13) (vs := [_, _]) (r := []) (by decide +kernel) rfl rfl (Nat.le_of_ble_eq_true rfl) (by first | rfl | assumption) (by first | exact hS.1 _ _ rfl | assumption) hC ?_
    rintro _ S3 hq
    obtain ⟨z, rfl, hz, q⟩ := rx_p_K hK hq
    refine ty_KI ?_
    have hzr : 0 ≤ z ∧ z ≤ 1 := by rw [hz]; split <;> omega
    refine ty_ret_i (pc := 100) (ks := []) (ty := .boolean) (by decide +kernel) rfl (ty_fit_z (by omega)) ?_
    exact ⟨z, rfl, hz, q⟩
  · simp only at e1 e2 e3
    have n33 : sg ≠ 33 := by omega
    have n40 : sg ≠ 40 := by omega
    obtain ⟨-, okl, okr⟩ := c3.resolve_left n33
    rcases e1 with ⟨e1, k⟩ | ⟨e1, k⟩ | ⟨e1, k⟩ | ⟨e1, k, kr⟩
    · subst e1
      rw [k]
      refine ty_jmp (pc := 28) (ins := .tableswitch 109 0 4 #[36, 66, 73, 91, 100]) (ks := [137, 64, 94, 101, 119, 128]) (pc' := 101) (st' := []) (by decide +kernel) (by rfl) ?_
      have hf : mo_first (dk_P S0 tau s m) (st, came, sl, al, ar, (made, bd, ch, ns, dn, an, aw), (61, l, r, b) :: todo, cs, ans) = (1, (st + 1, came, sl, al, ar, (made, bd, ch, ns, dn, an, aw), todo, cs, ans), [(l, r)], none) := by
        unfold mo_first
        dsimp only
        rw [if_neg he0, if_neg (by decide), if_neg (by decide), if_pos rfl]
      have hR2 := hR.symm.trans (mo_round_1 hf)
      clear hf hR
      refine ty_aload_n (pc := 101) (i := 0) (ks := []) (by decide +kernel) rfl ?_
      refine ty_iconst (pc := 102) (n := 0) (ks := []) (by decide +kernel) ?_
      refine ty_putI (pc := 103) (idx := 231) (ci := 13) (f := 36) (by decide +kernel) (by first | rfl | assumption) rfl rfl (by first | exact hS.1 _ _ rfl | assumption) ?_
      rw [rm_sI]
      refine ty_aload_n (pc := 106) (i := 0) (ks := []) (by decide +kernel) rfl ?_
      refine ty_iload_n (pc := 107) (i := 3) (ks := []) (by decide +kernel) rfl ?_
      refine ty_iload (pc := 108) (i := 4) (ks := []) (by decide +kernel) rfl ?_
      -- at 110: .invokevirtual 253
      refine ty_callv (pc := 110) (idx := 253) (m := 130) (n := 3) (c := 13) (vs := [_, _]) (r := []) (by decide +kernel) rfl rfl (Nat.le_of_ble_eq_true rfl) (by first | rfl | assumption) (by first | exact hS.1 _ _ rfl | assumption) ((rm_pair (L := L) (xs := xs) (I := rm_u (rm_u I 30 (st + 1)) 36 0) (A := A) 0 hS (n := 0) rfl ⟨by decide, by decide⟩).deeper (by omega)) ?_
      rintro _ S3 ⟨rfl, rfl⟩
      refine ty_KV ?_
      generalize hA2 : rm_w (rm_w A 78 0 (A 67 p)) 79 0 (A 68 p) = A2
      have aO : ∀ q, q ≠ 78 → q ≠ 79 → A2 q = A q := fun q h1 h2 => by
        rw [← hA2]
        funext j
        simp [rm_w, h1, h2]
      have aL : A2 78 0 = A 67 p := by rw [← hA2]; simp [rm_w]
      have aR : A2 79 0 = A 68 p := by rw [← hA2]; simp [rm_w]
      clear hA2
      have hfm : rh_fm (rm_u I 30 (st + 1)) A (rm_u (rm_u (rm_u I 30 (st + 1)) 36 0) 36 (0 + 1)) A2 := ⟨fun k h1 h2 h3 h4 h5 => (if_neg h3).trans (if_neg h3), fun q h1 h2 h3 h4 => aO q h3 h4, fun j hj => ⟨congrFun (aO _ (by decide) (by decide)) j, congrFun (aO _ (by decide) (by decide)) j⟩⟩
      have hX2 := rx_S_h (P := dk_P S0 tau s m) hw hMI1 hX1 hfm (st' := st + 1) rfl hX1.1.1 ⟨Int.le_refl _, by omega⟩
      have htd2 : rm_td (dk_G S0 tau) ta nc A2 ng (A 70 p) ([] ++ todo) := rm_td_keep (Int.le_refl _) (Int.le_refl _) (fun _ _ _ => rfl) (fun g _ _ => by
        rw [aO _ (by decide) (by decide), aO _ (by decide) (by decide), aO _ (by decide) (by decide), aO _ (by decide) (by decide), aO _ (by decide) (by decide)]
        exact ⟨rfl, rfl, rfl, rfl, rfl⟩) _ _ t4
      have hstk : rm_stk (dk_G S0 tau) ta nc (A2 78) (A2 79) 1 [(l, r)] := by
        refine ⟨by decide, ?_, ?_, rfl⟩
        · show rm_t (dk_G S0 tau) ta nc (A2 78 0) l
          rw [aL]
          exact e2
        · show rm_t (dk_G S0 tau) ta nc (A2 79 0) r
          rw [aR]
          exact e3
      have hUn := rx_unify (L := L) (xs := xs) (S := S) (d + 2) hS hW hMI1 hX2 (ps := [(l, r)]) hstk (fun q hq => by rw [List.mem_singleton.mp hq]; exact ⟨okl, okr⟩) (by simp) (body := []) (fun g hg => (nomatch hg)) htd2
      refine ty_aload_n (pc := 113) (i := 0) (ks := []) (by decide +kernel) rfl ?_
      refine ty_iload_n (pc := 114) (i := 2) (ks := []) (by decide +kernel) rfl ?_
      -- at 115: .invokevirtual 283
      refine ty_callv (pc := 115) (idx := 283) (m := 131) (n := 2) (c := 13) (vs := [_]) (r := []) (by decide +kernel) rfl rfl (Nat.le_of_ble_eq_true rfl) (by first | rfl | assumption) (by first | exact hS.1 _ _ rfl | assumption) hUn ?_
      rintro _ S4 hq
      obtain ⟨z, rfl, hz, q⟩ := rx_p_K (rx_K.trans hK hfm.K) hq
      refine ty_KI ?_
      have hzr : 0 ≤ z ∧ z ≤ 1 := by rw [hz]; split <;> omega
      refine ty_ret_i (pc := 118) (ks := []) (ty := .boolean) (by decide +kernel) rfl (ty_fit_z (by omega)) ?_
      rw [hR2]
      exact ⟨z, rfl, hz, q⟩
    · subst e1
      rw [k]
      refine ty_jmp (pc := 28) (ins := .tableswitch 109 0 4 #[36, 66, 73, 91, 100]) (ks := [137, 64, 94, 101, 119, 128]) (pc' := 119) (st' := []) (by decide +kernel) (by rfl) ?_
      have hf : mo_first (dk_P S0 tau s m) (st, came, sl, al, ar, (made, bd, ch, ns, dn, an, aw), (126, l, r, b) :: todo, cs, ans) = (1, (st + 1, came, sl, mo_up al an l, mo_up ar an r, (made, bd, ch, ns, dn, an + 1, mo_uw aw an true), todo, cs, ans), [], none) := by
        unfold mo_first
        dsimp only
        rw [if_neg he0, if_neg (by decide), if_neg (by decide), if_neg (by decide), if_pos rfl]
      have hR2 := hR.symm.trans (mo_round_1 hf)
      clear hf hR
      have hC := rx_apart (L := L) (xs := xs) (S := S) (d + 2) hS hW hMI1 hX1 okl okr e2 e3 t4 (by omega)
      refine ty_aload_n (pc := 119) (i := 0) (ks := []) (by decide +kernel) rfl ?_
      refine ty_iload_n (pc := 120) (i := 3) (ks := []) (by decide +kernel) rfl ?_
      refine ty_iload (pc := 121) (i := 4) (ks := []) (by decide +kernel) rfl ?_
      refine ty_iload_n (pc := 123) (i := 2) (ks := []) (by decide +kernel) rfl ?_
      -- at 124: .invokevirtual 302
      refine ty_callv (pc := 124) (idx := 302) (m := 141) (n := 4) (c := 13) (vs := [_, _, _]) (r := []) (by decide +kernel) rfl rfl (Nat.le_of_ble_eq_true rfl) (by first | rfl | assumption) (by first | exact hS.1 _ _ rfl | assumption) hC ?_
      rintro _ S3 hq
      obtain ⟨z, rfl, hz, q⟩ := rx_p_K hK hq
      refine ty_KI ?_
      have hzr : 0 ≤ z ∧ z ≤ 1 := by rw [hz]; split <;> omega
      refine ty_ret_i (pc := 127) (ks := []) (ty := .boolean) (by decide +kernel) rfl (ty_fit_z (by omega)) ?_
      rw [hR2]
      exact ⟨z, rfl, hz, q⟩
    · subst e1
      rw [k]
      refine ty_jmp (pc := 28) (ins := .tableswitch 109 0 4 #[36, 66, 73, 91, 100]) (ks := [137, 64, 94, 101, 119, 128]) (pc' := 128) (st' := []) (by decide +kernel) (by rfl) ?_
      have hR2 : R = (if 0 ≤ mo_val (dk_G S0 tau) bd l ∧ 0 ≤ mo_val (dk_G S0 tau) bd r ∧ (48 ≤ mo_l (dk_G S0 tau) (mo_val (dk_G S0 tau) bd l) ∧ mo_l (dk_G S0 tau) (mo_val (dk_G S0 tau) bd l) ≤ 57) ∧ 48 ≤ mo_l (dk_G S0 tau) (mo_val (dk_G S0 tau) bd r) ∧ mo_l (dk_G S0 tau) (mo_val (dk_G S0 tau) bd r) ≤ 57 then (if mo_l (dk_G S0 tau) (mo_val (dk_G S0 tau) bd l) < mo_l (dk_G S0 tau) (mo_val (dk_G S0 tau) bd r) then 1 else 0) else 3, (st + 1, came, sl, al, ar, (made, bd, ch, ns, dn, an, aw), todo, cs, ans)) := by
        rw [← hR]
        by_cases e : 0 ≤ mo_val (dk_G S0 tau) bd l ∧ 0 ≤ mo_val (dk_G S0 tau) bd r ∧ (48 ≤ mo_l (dk_G S0 tau) (mo_val (dk_G S0 tau) bd l) ∧ mo_l (dk_G S0 tau) (mo_val (dk_G S0 tau) bd l) ≤ 57) ∧ 48 ≤ mo_l (dk_G S0 tau) (mo_val (dk_G S0 tau) bd r) ∧ mo_l (dk_G S0 tau) (mo_val (dk_G S0 tau) bd r) ≤ 57
        · rw [if_pos e]
          by_cases e' : mo_l (dk_G S0 tau) (mo_val (dk_G S0 tau) bd l) < mo_l (dk_G S0 tau) (mo_val (dk_G S0 tau) bd r)
          · rw [if_pos e']
            refine (mo_round_1 (P := dk_P S0 tau s m) (M1 := (st + 1, came, sl, al, ar, (made, bd, ch, ns, dn, an, aw), todo, cs, ans)) (ps := []) (tk := none) ?_).trans (mo_fin_id (by omega))
            unfold mo_first
            dsimp only
            rw [if_neg he0, if_neg (by decide), if_neg (by decide), if_neg (by decide), if_neg (by decide), if_pos rfl]
            refine (if_pos e).trans ?_
            exact congrArg (fun c => ((c, (st + 1, came, sl, al, ar, (made, bd, ch, ns, dn, an, aw), todo, cs, ans), [], none) : mo_R1)) (if_pos e')
          · rw [if_neg e']
            refine mo_round_n (P := dk_P S0 tau s m) (c := 0) (ps := []) (tk := none) ?_ (by decide)
            unfold mo_first
            dsimp only
            rw [if_neg he0, if_neg (by decide), if_neg (by decide), if_neg (by decide), if_neg (by decide), if_pos rfl]
            refine (if_pos e).trans ?_
            exact congrArg (fun c => ((c, (st + 1, came, sl, al, ar, (made, bd, ch, ns, dn, an, aw), todo, cs, ans), [], none) : mo_R1)) (if_neg e')
        · rw [if_neg e]
          refine mo_round_n (P := dk_P S0 tau s m) (c := 3) (ps := []) (tk := none) ?_ (by decide)
          unfold mo_first
          dsimp only
          rw [if_neg he0, if_neg (by decide), if_neg (by decide), if_neg (by decide), if_neg (by decide), if_pos rfl]
          exact if_neg e
      have hC := rx_less (L := L) (xs := xs) (S := S) (d + 6) hS hW hMI1 hX1 okl okr e2 e3 t4 hR2
      clear hR hR2
      refine ty_aload_n (pc := 128) (i := 0) (ks := []) (by decide +kernel) rfl ?_
      refine ty_iload_n (pc := 129) (i := 3) (ks := []) (by decide +kernel) rfl ?_
      refine ty_iload (pc := 130) (i := 4) (ks := []) (by decide +kernel) rfl ?_
      refine ty_iload_n (pc := 132) (i := 2) (ks := []) (by decide +kernel) rfl ?_
      -- at 133: .invokevirtual 305
      refine ty_callv (pc := 133) (idx := 305) (m := 142) (n := 4) (c := 13) (vs := [_, _, _]) (r := []) (by decide +kernel) rfl rfl (Nat.le_of_ble_eq_true rfl) (by first | rfl | assumption) (by first | exact hS.1 _ _ rfl | assumption) hC ?_
      rintro _ S3 hq
      obtain ⟨z, rfl, hz, q⟩ := rx_p_K hK hq
      refine ty_KI ?_
      have hzr : 0 ≤ z ∧ z ≤ 1 := by rw [hz]; split <;> omega
      refine ty_ret_i (pc := 136) (ks := []) (ty := .boolean) (by decide +kernel) rfl (ty_fit_z (by omega)) ?_
      exact ⟨z, rfl, hz, q⟩
    · subst e1
      rw [k]
      refine ty_jmp (pc := 28) (ins := .tableswitch 109 0 4 #[36, 66, 73, 91, 100]) (ks := [137, 64, 94, 101, 119, 128]) (pc' := 137) (st' := []) (by decide +kernel) (by rfl) ?_
      have hR2 : R = (1, if mo_val (dk_G S0 tau) bd l < 0 then (st + 1, came, mo_up sl ns r, al, ar, (made, bd, mo_upc ch (-1 - mo_val (dk_G S0 tau) bd l) (ch (-1 - mo_val (dk_G S0 tau) bd l) ++ [ns]), ns + 1, dn, an, aw), todo, cs, ans) else (st + 1, came, sl, al, ar, (made, bd, ch, ns, dn, an, aw), (40, r, r, 0) :: todo, cs, ans)) := by
        rw [← hR]
        by_cases e : mo_val (dk_G S0 tau) bd l < 0
        · rw [if_pos e]
          refine (mo_round_1 (P := dk_P S0 tau s m) (M1 := (st + 1, came, mo_up sl ns r, al, ar, (made, bd, mo_upc ch (-1 - mo_val (dk_G S0 tau) bd l) (ch (-1 - mo_val (dk_G S0 tau) bd l) ++ [ns]), ns + 1, dn, an, aw), todo, cs, ans)) (ps := []) (tk := none) ?_).trans (mo_fin_id (by omega))
          unfold mo_first
          dsimp only
          rw [if_neg he0, if_neg (by decide), if_neg (by decide), if_neg (by decide), if_neg (by decide), if_neg (by decide)]
          exact if_pos e
        · rw [if_neg e]
          refine (mo_round_1 (P := dk_P S0 tau s m) (M1 := (st + 1, came, sl, al, ar, (made, bd, ch, ns, dn, an, aw), (40, r, r, 0) :: todo, cs, ans)) (ps := []) (tk := none) ?_).trans (mo_fin_id (by omega))
          unfold mo_first
          dsimp only
          rw [if_neg he0, if_neg (by decide), if_neg (by decide), if_neg (by decide), if_neg (by decide), if_neg (by decide)]
          exact if_neg e
      have hC := rx_sleep (L := L) (xs := xs) (S := S) (d + 5) hS hW hMI1 hX1 okl okr e2 e3 kr t4 (by omega) hng (by show I 32 + 4 ≤ 4 * (st + 1); omega) hR2
      clear hR hR2
      refine ty_aload_n (pc := 137) (i := 0) (ks := []) (by decide +kernel) rfl ?_
      refine ty_iload_n (pc := 138) (i := 3) (ks := []) (by decide +kernel) rfl ?_
      refine ty_iload (pc := 139) (i := 4) (ks := []) (by decide +kernel) rfl ?_
      refine ty_iload_n (pc := 141) (i := 2) (ks := []) (by decide +kernel) rfl ?_
      -- at 142: .invokevirtual 308
      refine ty_callv (pc := 142) (idx := 308) (m := 143) (n := 4) (c := 13) (vs := [_, _, _]) (r := []) (by decide +kernel) rfl rfl (Nat.le_of_ble_eq_true rfl) (by first | rfl | assumption) (by first | exact hS.1 _ _ rfl | assumption) hC ?_
      rintro _ S3 hq
      obtain ⟨z, rfl, hz, q⟩ := rx_p_K hK hq
      refine ty_KI ?_
      have hzr : 0 ≤ z ∧ z ≤ 1 := by rw [hz]; split <;> omega
      refine ty_ret_i (pc := 145) (ks := []) (ty := .boolean) (by decide +kernel) rfl (ty_fit_z (by omega)) ?_
      exact ⟨z, rfl, hz, q⟩
end RXP
