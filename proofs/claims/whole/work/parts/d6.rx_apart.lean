/-! The reference: terms told to stay different. -/
theorem mo_fin_nil {P : mo_P} {st came : Int} {sl al ar : Int → Int} {made : Int} {bd : Int → Int} {ch : Int → List Int} {ns : Int} {dn : List Int} {an : Int} {aw : Int → Bool} {todo : List mo_Go} {cs : List mo_Ch} {ans : Int} (hst : st ≤ 500) {n : Int} : mo_fin P (st, came, sl, al, ar, (made, bd, ch, ns, dn, an, aw), todo, cs, ans) [] [] n = ((mo_hold P.1 bd ch [] al ar (an - n).toNat st n aw).1, ((mo_hold P.1 bd ch [] al ar (an - n).toNat st n aw).2.1, came, sl, al, ar, (made, bd, ch, ns, dn, an, (mo_hold P.1 bd ch [] al ar (an - n).toNat st n aw).2.2), todo, cs, ans)) := by
  have e : mo_ur P.1 false st ([], bd, ch, [], false) = (1, st, bd, ch, [], false) := by
    unfold mo_ur
    obtain ⟨k, hk⟩ : ∃ k, (501 - st).toNat = k + 1 := ⟨(501 - st).toNat - 1, by omega⟩
    rw [hk]
    rfl
  unfold mo_fin
  dsimp only
  rw [e]
  simp only [mo_wg, List.map_nil, List.nil_append, List.append_nil, if_pos, ite_self]
  rw [if_neg (show ¬ (false = true) by decide)]
section RXAP
variable {L : Nat} {xs : Nat → Int32} {S : ty_S}
/-- a test leaves the state -/
theorem rx_S_h {P : mo_P} (hw : mo_wf P.1) {I I' : Nat → Int} {A A' : Nat → Int → Int} {ta rl : Int → Int} {nc ng na : Int} {st st' came : Int} {sl al ar : Int → Int} {V : mo_V} {todo : List mo_Go} {cs : List mo_Ch} {ans : Int} (hMI : mo_MI P (st, came, sl, al, ar, V, todo, cs, ans)) (h : rx_S I A P.1 ta rl nc ng na (st, came, sl, al, ar, V, todo, cs, ans)) (hf : rh_fm I A I' A') (hs : I' 30 = st') (ht : I' 11 = 0) (hst : st ≤ st' ∧ st' ≤ 500) : rx_S I' A' P.1 ta rl nc ng na (st', came, sl, al, ar, V, todo, cs, ans) := by
  obtain ⟨b1, b2, b3, b4⟩ := hMI
  obtain ⟨x1, x2, x3, x4, x5, x6, x7, x8, x9, x10, x11, x12⟩ := h
  simp only at b1 b2 b3 b4 x2 x3 x4 x5 x6 x7 x8 x9 x10 x11 x12
  have hud := rh_fm_ud hf
  obtain ⟨f1, f2, f3⟩ := hf
  have eT : I' 32 = I 32 := f1 _ (by decide) (by decide) (by decide) (by decide) (by decide)
  rw [eT] at hud
  have fi := fun k h1 h2 h3 h4 h5 => f1 k h1 h2 h3 h4 h5
  have hrr : rr A' = rr A := rr_e (f2 _ (by decide) (by decide) (by decide) (by decide)) (f2 _ (by decide) (by decide) (by decide) (by decide)) (f2 _ (by decide) (by decide) (by decide) (by decide)) (f2 _ (by decide) (by decide) (by decide) (by decide)) (f2 _ (by decide) (by decide) (by decide) (by decide))
  have fj := fun q h1 h2 h3 h4 (j : Int) => congrFun (f2 q h1 h2 h3 h4) j
  refine ⟨⟨ht, (f1 _ (by decide) (by decide) (by decide) (by decide) (by decide)).trans x1.2⟩, ⟨hs, by simp only; omega, hst.2⟩, ⟨by rw [eT]; simp only; omega, ?_⟩, ⟨(f1 _ (by decide) (by decide) (by decide) (by decide) (by decide)).trans x4.1, (f1 _ (by decide) (by decide) (by decide) (by decide) (by decide)).trans x4.2⟩, ⟨(f1 _ (by decide) (by decide) (by decide) (by decide) (by decide)).trans x5.1, x5.2.1, by simp only; omega⟩, ⟨(f1 _ (by decide) (by decide) (by decide) (by decide) (by decide)).trans x6.1, x6.2.1, by simp only; omega⟩, (f1 _ (by decide) (by decide) (by decide) (by decide) (by decide)).trans x7, (f1 _ (by decide) (by decide) (by decide) (by decide) (by decide)).trans x8, (f1 _ (by decide) (by decide) (by decide) (by decide) (by decide)).trans x9, (f1 _ (by decide) (by decide) (by decide) (by decide) (by decide)).trans x10, ?_, ?_⟩
  · rw [eT]
    intro j j0 j1
    rw [(f3 j j1).1]
    exact x3.2 j j0 j1
  · rw [hrr]
    exact rx_V_k hw x11 b3.2.2.1 x5.2.1 (Int.le_refl _) (fun c _ _ => ⟨rfl, fj _ (by decide) (by decide) (by decide) (by decide) _, fj _ (by decide) (by decide) (by decide) (by decide) _⟩) (fun j _ _ => fj _ (by decide) (by decide) (by decide) (by decide) _) (fun c c0 c1 => by omega) (fun e _ _ => ⟨fj _ (by decide) (by decide) (by decide) (by decide) _, rfl⟩) (fun k _ _ => ⟨⟨fj _ (by decide) (by decide) (by decide) (by decide) _, fj _ (by decide) (by decide) (by decide) (by decide) _⟩, rfl⟩) (fun _ _ _ => ⟨rfl, rfl⟩) (fun _ _ _ => rfl)
  · rw [eT]
    exact rx_C_k hw hst.1 (Int.le_refl _) cs V.1 V.2.2.2.1 V.2.2.2.2.2.1 nc ng na (I 32) _ _ _ _ b4 x12 ⟨fun c _ _ => ⟨rfl, fj _ (by decide) (by decide) (by decide) (by decide) _, fj _ (by decide) (by decide) (by decide) (by decide) _⟩, fun j _ _ => fj _ (by decide) (by decide) (by decide) (by decide) _, fun g _ _ => ⟨fj _ (by decide) (by decide) (by decide) (by decide) _, fj _ (by decide) (by decide) (by decide) (by decide) _, fj _ (by decide) (by decide) (by decide) (by decide) _, fj _ (by decide) (by decide) (by decide) (by decide) _, fj _ (by decide) (by decide) (by decide) (by decide) _⟩, fun e _ _ => fj _ (by decide) (by decide) (by decide) (by decide) _, fun k _ _ => ⟨fj _ (by decide) (by decide) (by decide) (by decide) _, fj _ (by decide) (by decide) (by decide) (by decide) _⟩, fun k _ _ => ⟨fj _ (by decide) (by decide) (by decide) (by decide) _, fj _ (by decide) (by decide) (by decide) (by decide) _, fj _ (by decide) (by decide) (by decide) (by decide) _, fj _ (by decide) (by decide) (by decide) (by decide) _, fj _ (by decide) (by decide) (by decide) (by decide) _, fj _ (by decide) (by decide) (by decide) (by decide) _, fj _ (by decide) (by decide) (by decide) (by decide) _, fj _ (by decide) (by decide) (by decide) (by decide) _, fj _ (by decide) (by decide) (by decide) (by decide) _⟩, fun to t0 t1 r j _ => by rw [hud.2.2 to t0 t1]⟩ (fun _ _ _ => rfl) (fun _ _ _ => ⟨rfl, rfl⟩) (fun _ _ _ => rfl) (Int.le_refl _) (Int.le_refl _) (Int.le_refl _) (Int.le_refl _) (Int.le_refl _)
theorem rh_fm.K {I I' : Nat → Int} {A A' : Nat → Int → Int} (h : rh_fm I A I' A') : rx_K I A I' A' := by
  obtain ⟨h1, h2, -⟩ := h
  exact ⟨⟨h1 _ (by decide) (by decide) (by decide) (by decide) (by decide), h1 _ (by decide) (by decide) (by decide) (by decide) (by decide), h1 _ (by decide) (by decide) (by decide) (by decide) (by decide), h1 _ (by decide) (by decide) (by decide) (by decide) (by decide)⟩, h2 _ (by decide) (by decide) (by decide) (by decide), h2 _ (by decide) (by decide) (by decide) (by decide), h2 _ (by decide) (by decide) (by decide) (by decide), h2 _ (by decide) (by decide) (by decide) (by decide)⟩
/-- the idle state as the tests want it -/
theorem rx_S_R {P : mo_P} {I : Nat → Int} {A : Nat → Int → Int} {ta rl : Int → Int} {nc ng na : Int} {st came : Int} {sl al ar : Int → Int} {made : Int} {bd : Int → Int} {ch : Int → List Int} {ns : Int} {dn : List Int} {an : Int} {aw : Int → Bool} {todo : List mo_Go} {cs : List mo_Ch} {ans : Int} (hMI : mo_MI P (st, came, sl, al, ar, (made, bd, ch, ns, dn, an, aw), todo, cs, ans)) (h : rx_S I A P.1 ta rl nc ng na (st, came, sl, al, ar, (made, bd, ch, ns, dn, an, aw), todo, cs, ans)) : rh_R I A P.1 ta nc made ns st 0 bd ch := by
  obtain ⟨b1, b2, ⟨a1, a2, a3, a4, a5, a6, a7, a8⟩, b4⟩ := hMI
  obtain ⟨x1, x2, x3, x4, x5, x6, x7, x8, x9, x10, ⟨v1, v2, v3, v4, v5⟩, x12⟩ := h
  simp only at b1 b2 a1 a4 x2 x3 x5 v1 v2 v3
  exact ⟨x2, x1.1, x3, x1.2, v2, v3, v1, ⟨x5.2.1, by omega⟩, ⟨a1, by omega⟩, a4, by omega⟩
/-- todo is set -/
theorem rx_S_todo {I : Nat → Int} {A : Nat → Int → Int} {G : mo_G} {ta rl : Int → Int} {nc ng na : Int} {M : mo_M} (h : rx_S I A G ta rl nc ng na M) {v : Int} : rx_S (rm_u I 29 v) A G ta rl nc ng na M := h
theorem rx_apart (d : Nat) (hS : ty_st S) {P : mo_P} (hW : mo_PW P) {I : Nat → Int} {A : Nat → Int → Int} {ta rl : Int → Int} {nc ng na : Int} {st came : Int} {sl al ar : Int → Int} {made : Int} {bd : Int → Int} {ch : Int → List Int} {ns : Int} {dn : List Int} {an : Int} {aw : Int → Bool} {todo : List mo_Go} {cs : List mo_Ch} {ans : Int} (hMI : mo_MI P (st, came, sl, al, ar, (made, bd, ch, ns, dn, an, aw), todo, cs, ans)) (hX : rx_S I A P.1 ta rl nc ng na (st, came, sl, al, ar, (made, bd, ch, ns, dn, an, aw), todo, cs, ans)) {l r x y behind : Int} (hl : mo_ok P.1 made l) (hr : mo_ok P.1 made r) (hx : rm_t P.1 ta nc x l) (hy : rm_t P.1 ta nc y r) (htd : rm_td P.1 ta nc A ng behind todo) (han : an < 500) :
    ty_C L xs (d + 6) 141 [.inr (.inr (some (94, 0))), .inl (ty_J x), .inl (ty_J y), .inl (ty_J behind)] (rm_s S I A) (rx_p S I A P (mo_fin P (st, came, sl, mo_up al an l, mo_up ar an r, (made, bd, ch, ns, dn, an + 1, mo_uw aw an true), todo, cs, ans) [] [] an)) := by
  have hw := hW.1
  have hMI0 := hMI
  obtain ⟨b1, b2, ⟨a1, a2, a3, a4, a5, a6, a7, a8⟩, b4⟩ := hMI
  simp only at b1 b2 a1 a2 a3 a4 a5 a6 a7 a8 b4
  have hRh := rx_S_R hMI0 hX
  have hcw : mo_cw made ns bd ch (dn ++ []) := by rw [List.append_nil]; exact a3
  have hmade : made ≤ 13000 := hRh.2.2.2.2.2.2.2.2.1.2
  have hT := rm_test (L := L) (xs := xs) d hS hw hmade (w := []) hRh hx hy hl hr a2 hcw
  have hinv := mo_un_inv hw (made := made) (ns := ns) (by omega) (tr := true) (dn := dn) (501 - st).toNat st [(l, r)] bd ch [] false (by omega) b1.2 (fun p hp => by rw [List.mem_singleton.mp hp]; exact ⟨hl, hr⟩) a2 hcw
  rw [mo_fin_nil b1.2]
  have eh : mo_hold P.1 bd ch [] (mo_up al an l) (mo_up ar an r) (an + 1 - an).toNat st an (mo_uw aw an true) = (if (mo_ur P.1 true st ([(l, r)], bd, ch, [], false)).1 = 2 then (2, (mo_ur P.1 true st ([(l, r)], bd, ch, [], false)).2.1, mo_uw aw an true)
       else if (mo_ur P.1 true st ([(l, r)], bd, ch, [], false)).1 = 1 then (if (mo_ur P.1 true st ([(l, r)], bd, ch, [], false)).2.2.2.2.2 = true then (1, (mo_ur P.1 true st ([(l, r)], bd, ch, [], false)).2.1, mo_uw aw an true) else (0, (mo_ur P.1 true st ([(l, r)], bd, ch, [], false)).2.1, mo_uw aw an true))
       else (1, (mo_ur P.1 true st ([(l, r)], bd, ch, [], false)).2.1, mo_uw (mo_uw aw an true) an false)) := by
    rw [show (an + 1 - an).toNat = 0 + 1 by omega]
    have e1 : mo_uw aw an true an = true := if_pos rfl
    have e2 : mo_up al an l an = l := if_pos rfl
    have e3 : mo_up ar an r an = r := if_pos rfl
    unfold mo_hold
    rw [if_pos e1, e2, e3]
    rfl
  rw [eh]
  clear eh
  have hur : mo_un P.1 true (501 - st).toNat st ([(l, r)], bd, ch, [], false) = mo_ur P.1 true st ([(l, r)], bd, ch, [], false) := rfl
  rw [hur] at hinv
  generalize mo_ur P.1 true st ([(l, r)], bd, ch, [], false) = u at hinv hT ⊢
  clear hur
  obtain ⟨uc, ust, ubd, uch, uwk, ufl⟩ := u
  simp only at hinv hT ⊢
  obtain ⟨i1, i2, -⟩ := hinv
  -- the choices see no more than they saw
  have hBk : ∀ (I1 : Nat → Int) (A1 : Nat → Int → Int) (aw' : Int → Bool), rx_S I1 A1 P.1 ta rl nc ng na (ust, came, sl, al, ar, (made, bd, ch, ns, dn, an, aw), todo, cs, ans) → rx_C P.1 sl (mo_up al an l) (mo_up ar an r) rl ta A1 (I1 32) ust nc ng na (I1 32) cs := by
    intro I1 A1 aw' h
    obtain ⟨y1, y2, y3, y4, y5, y6, y7, y8, y9, y10, y11, y12⟩ := h
    exact rx_C_k hw (Int.le_refl ust) (Int.le_refl _) cs made ns an nc ng na _ _ _ _ _ b4 y12 ⟨fun _ _ _ => ⟨rfl, rfl, rfl⟩, fun _ _ _ => rfl, fun _ _ _ => ⟨rfl, rfl, rfl, rfl, rfl⟩, fun _ _ _ => rfl, fun _ _ _ => ⟨rfl, rfl⟩, fun _ _ _ => ⟨rfl, rfl, rfl, rfl, rfl, rfl, rfl, rfl, rfl⟩, fun _ _ _ _ _ _ => rfl⟩ (fun _ _ _ => rfl) (fun j _ j1 => ⟨if_neg (by omega), if_neg (by omega)⟩) (fun _ _ _ => rfl) (Int.le_refl _) (Int.le_refl _) (Int.le_refl _) (Int.le_refl _) (Int.le_refl _)
  refine ty_enter (ml := 5) (ls := [_, _, _, _, _]) rfl rfl (Nat.le_of_ble_eq_true rfl) ?_
  refine ty_aload_n (pc := 0) (i := 0) (ks := []) (by decide +kernel) rfl ?_
  refine ty_iload_n (pc := 1) (i := 1) (ks := []) (by decide +kernel) rfl ?_
  refine ty_iload_n (pc := 2) (i := 2) (ks := []) (by decide +kernel) rfl ?_
  -- at 3: .invokevirtual 266
  refine ty_callv (pc := 3) (idx := 266) (m := 138) (n := 3) (c := 13) (vs := [_, _]) (r := []) (by decide +kernel) rfl rfl (Nat.le_of_ble_eq_true rfl) (by first | rfl | assumption) (by first | exact hS.1 _ _ rfl | assumption) hT ?_
  rintro _ S1 ⟨z, rfl, hz, I1, A1, rfl, hf1, hs1, ht1⟩
  refine ty_KI ?_
  have hE1 : rx_E I1 := by
    have hE := hX.E hMI0
    have f1 := hf1.1
    unfold rx_E at hE ⊢
    rw [f1 40 (by decide) (by decide) (by decide) (by decide) (by decide), f1 33 (by decide) (by decide) (by decide) (by decide) (by decide), f1 35 (by decide) (by decide) (by decide) (by decide) (by decide)]
    exact hE
  unfold rt_z at hz
  simp only at hz
  by_cases c2 : uc = 2
  · rw [if_pos c2] at hz ht1
    rw [if_pos c2]
    subst hz
    refine ty_istore (pc := 6) (i := 4) (ks := []) (ls' := [_, _, _, _, _]) (by decide +kernel) rfl ?_
    refine ty_iload (pc := 8) (i := 4) (ks := []) (by decide +kernel) rfl ?_
    refine ty_iconst (pc := 10) (n := 2) (ks := []) (by decide +kernel) ?_
    -- at 11: .if_icmp .ne 5
    refine ty_icmp_ne (pc := 11) (off := 5) (t := 16) (ks := []) (by decide +kernel) (by omega) (by omega) (fun hc => ?_) (fun hc => ?_)
    · exact absurd rfl hc
    refine ty_iconst (pc := 14) (n := 0) (ks := []) (by decide +kernel) ?_
    -- at 15: .ireturn
    refine ty_ret_i (pc := 15) (ks := []) (ty := .boolean) (by decide +kernel) rfl (ty_fit_z (by omega)) ?_
    exact ⟨0, rfl, rfl, I1, A1, rfl, ⟨hf1.K, hE1⟩, .inl ⟨rfl, ht1⟩⟩
  · rw [if_neg c2] at hz ht1
    rw [if_neg c2]
    have hX1 := rx_S_h hw hMI0 hX hf1 hs1 ht1 i2
    have htd1 : rm_td P.1 ta nc A1 ng behind todo := rm_td_keep (Int.le_refl _) (Int.le_refl _) (fun _ _ _ => rfl) (fun g _ _ => by
      rw [hf1.2.1 _ (by decide) (by decide) (by decide) (by decide), hf1.2.1 _ (by decide) (by decide) (by decide) (by decide), hf1.2.1 _ (by decide) (by decide) (by decide) (by decide), hf1.2.1 _ (by decide) (by decide) (by decide) (by decide), hf1.2.1 _ (by decide) (by decide) (by decide) (by decide)]
      exact ⟨rfl, rfl, rfl, rfl, rfl⟩) _ _ htd
    have hCk := hBk I1 A1 aw hX1
    have hX1' := hX1
    obtain ⟨x1, x2, x3, x4, x5, x6, x7, x8, x9, x10, ⟨v1, v2, v3, v4, v5⟩, x12⟩ := hX1
    simp only at x2 x3 x4 x5 x6 x7 x8 x9 x10 x12 v1 v2 v3 v4 v5
    by_cases c1 : uc = 1
    · rw [if_pos c1] at hz
      rw [if_pos c1]
      by_cases cf : ufl = true
      · rw [if_pos cf] at hz
        rw [if_pos cf]
        subst hz
        have hna := v5.1
        refine ty_istore (pc := 6) (i := 4) (ks := []) (ls' := [_, _, _, _, _]) (by decide +kernel) rfl ?_
        refine ty_iload (pc := 8) (i := 4) (ks := []) (by decide +kernel) rfl ?_
        refine ty_iconst (pc := 10) (n := 2) (ks := []) (by decide +kernel) ?_
        -- at 11: .if_icmp .ne 5
        refine ty_icmp_ne (pc := 11) (off := 5) (t := 16) (ks := []) (by decide +kernel) (by omega) (by omega) (fun hc => ?_) (fun hc => ?_)
        rotate_left
        · omega
        clear hc
        refine ty_aload_n (pc := 16) (i := 0) (ks := []) (by decide +kernel) rfl ?_
        refine ty_iload_n (pc := 17) (i := 3) (ks := []) (by decide +kernel) rfl ?_
        refine ty_putI (pc := 18) (idx := 270) (ci := 13) (f := 29) (by decide +kernel) (by first | rfl | assumption) rfl rfl (by first | exact hS.1 _ _ rfl | assumption) ?_
        rw [rm_sI]
        refine ty_iload (pc := 21) (i := 4) (ks := []) (by decide +kernel) rfl ?_
        -- at 23: .ifCond .ne 5
        refine ty_if_ne (pc := 23) (off := 5) (t := 28) (ks := []) (by decide +kernel) (by omega) (fun hc => ?_) (fun hc => ?_)
        rotate_left
        · omega
        clear hc
        refine ty_aload_n (pc := 28) (i := 0) (ks := []) (by decide +kernel) rfl ?_
        refine ty_getS (b := (75, 0)) (pc := 29) (idx := 81) (ci := 13) (f := 45) (by decide +kernel) (by first | rfl | assumption) rfl (by first | exact hS.1 _ _ rfl | assumption) (by first | exact hS.2.2 _ _ _ _ rfl | assumption) ?_
        refine ty_aload_n (pc := 32) (i := 0) (ks := []) (by decide +kernel) rfl ?_
        refine ty_getI (pc := 33) (idx := 263) (ci := 13) (f := 35) (by decide +kernel) (by first | rfl | assumption) rfl (by first | exact hS.1 _ _ rfl | assumption) (fun v hv => ?_)
        simp (decide := true) only [rm_I, rm_u, rm_w, ty_sI, ty_sR, ty_sA, ty_sQ, ty_mA, ty_mQ, ↓reduceIte, false_and, and_false, true_and, and_true, and_self] at hv
        subst hv
        refine ty_iload_n (pc := 36) (i := 1) (ks := []) (by decide +kernel) rfl ?_
        refine ty_iastore (pc := 37) (ks := []) (by decide +kernel) (by first | rfl | assumption) (by rfl) (by first | exact hS.1 _ _ rfl | assumption) (by first | exact hS.2.1 _ _ _ rfl | assumption) (by omega) ?_
        rw [rm_sA (by decide)]
        refine ty_aload_n (pc := 38) (i := 0) (ks := []) (by decide +kernel) rfl ?_
        refine ty_getS (b := (76, 0)) (pc := 39) (idx := 84) (ci := 13) (f := 46) (by decide +kernel) (by first | rfl | assumption) rfl (by first | exact hS.1 _ _ rfl | assumption) (by first | exact hS.2.2 _ _ _ _ rfl | assumption) ?_
        refine ty_aload_n (pc := 42) (i := 0) (ks := []) (by decide +kernel) rfl ?_
        refine ty_getI (pc := 43) (idx := 263) (ci := 13) (f := 35) (by decide +kernel) (by first | rfl | assumption) rfl (by first | exact hS.1 _ _ rfl | assumption) (fun v hv => ?_)
        simp (decide := true) only [rm_I, rm_u, rm_w, ty_sI, ty_sR, ty_sA, ty_sQ, ty_mA, ty_mQ, ↓reduceIte, false_and, and_false, true_and, and_true, and_self] at hv
        subst hv
        refine ty_iload_n (pc := 46) (i := 2) (ks := []) (by decide +kernel) rfl ?_
        refine ty_iastore (pc := 47) (ks := []) (by decide +kernel) (by first | rfl | assumption) (by rfl) (by first | exact hS.1 _ _ rfl | assumption) (by first | exact hS.2.1 _ _ _ rfl | assumption) (by omega) ?_
        rw [rm_sA (by decide)]
        refine ty_aload_n (pc := 48) (i := 0) (ks := []) (by decide +kernel) rfl ?_
        refine ty_getS (b := (77, 0)) (pc := 49) (idx := 87) (ci := 13) (f := 47) (by decide +kernel) (by first | rfl | assumption) rfl (by first | exact hS.1 _ _ rfl | assumption) (by first | exact hS.2.2 _ _ _ _ rfl | assumption) ?_
        refine ty_aload_n (pc := 52) (i := 0) (ks := []) (by decide +kernel) rfl ?_
        refine ty_getI (pc := 53) (idx := 263) (ci := 13) (f := 35) (by decide +kernel) (by first | rfl | assumption) rfl (by first | exact hS.1 _ _ rfl | assumption) (fun v hv => ?_)
        simp (decide := true) only [rm_I, rm_u, rm_w, ty_sI, ty_sR, ty_sA, ty_sQ, ty_mA, ty_mQ, ↓reduceIte, false_and, and_false, true_and, and_true, and_self] at hv
        subst hv
        refine ty_iconst (pc := 56) (n := 0) (ks := []) (by decide +kernel) ?_
        refine ty_iastore (pc := 57) (ks := []) (by decide +kernel) (by first | rfl | assumption) (by rfl) (by first | exact hS.1 _ _ rfl | assumption) (by first | exact hS.2.1 _ _ _ rfl | assumption) (by omega) ?_
        rw [rm_sA (by decide)]
        refine ty_aload_n (pc := 58) (i := 0) (ks := []) (by decide +kernel) rfl ?_
        refine ty_dup (pc := 59) (ks := []) (by decide +kernel) rfl ?_
        refine ty_getI (pc := 60) (idx := 263) (ci := 13) (f := 35) (by decide +kernel) (by first | rfl | assumption) rfl (by first | exact hS.1 _ _ rfl | assumption) (fun v hv => ?_)
        simp (decide := true) only [rm_I, rm_u, rm_w, ty_sI, ty_sR, ty_sA, ty_sQ, ty_mA, ty_mQ, ↓reduceIte, false_and, and_false, true_and, and_true, and_self] at hv
        subst hv
        refine ty_iconst (pc := 63) (n := 1) (ks := []) (by decide +kernel) ?_
        refine ty_iadd (pc := 64) (ks := []) (by decide +kernel) ?_
        refine ty_putI (pc := 65) (idx := 263) (ci := 13) (f := 35) (by decide +kernel) (by first | rfl | assumption) rfl rfl (by first | exact hS.1 _ _ rfl | assumption) ?_
        rw [rm_sI]
        refine ty_iconst (pc := 68) (n := 1) (ks := []) (by decide +kernel) ?_
        -- at 69: .ireturn
        refine ty_ret_i (pc := 69) (ks := []) (ty := .boolean) (by decide +kernel) rfl (ty_fit_z (by omega)) ?_
        rw [x8]
        generalize hA2 : rm_w (rm_w (rm_w A1 _ _ _) _ _ _) _ _ _ = A2
        have aO : ∀ q, q ≠ 75 → q ≠ 76 → q ≠ 77 → A2 q = A1 q := fun q h1 h2 h3 => by
          rw [← hA2]
          funext j
          simp [rm_w, h1, h2, h3]
        have aN : ∀ q j, j ≠ na → A2 q j = A1 q j := fun q j hj => by
          rw [← hA2]
          simp [rm_w, hj]
        have aL : A2 75 na = x := by rw [← hA2]; simp [rm_w]
        have aR : A2 76 na = y := by rw [← hA2]; simp [rm_w]
        have aG : A2 77 na = 0 := by rw [← hA2]; simp [rm_w]
        clear hA2
        have hf2 := hf1.K
        refine ⟨1, rfl, rfl, _, A2, rfl, ⟨⟨hf2.1, ?_, ?_, ?_, ?_⟩, hE1.1, show 0 ≤ na + 1 by omega, show na + 1 ≤ 500 by omega⟩, .inr (.inr (.inr ⟨rfl, ta, mo_up rl na an, nc, ng, na + 1, ⟨x1, x2, ⟨x3.1, ?_⟩, x4, x5, x6, x7, rfl, x9, x10, ⟨?_, ?_, ?_, ?_, ?_⟩, ?_⟩, ?_⟩))⟩
        · rw [aO _ (by decide) (by decide) (by decide)]; exact hf2.2.1
        · rw [aO _ (by decide) (by decide) (by decide)]; exact hf2.2.2.1
        · rw [aO _ (by decide) (by decide) (by decide)]; exact hf2.2.2.2.1
        · rw [aO _ (by decide) (by decide) (by decide)]; exact hf2.2.2.2.2
        · rw [aO _ (by decide) (by decide) (by decide)]; exact x3.2
        · exact fun c c0 c1 => rm_cell_e (v1 c c0 c1) (aO _ (by decide) (by decide) (by decide)) (aO _ (by decide) (by decide) (by decide)) (aO _ (by decide) (by decide) (by decide))
        · intro v w0 w1
          show rm_b ta nc (A2 63 v) (bd v)
          rw [aO _ (by decide) (by decide) (by decide)]
          exact v2 v w0 w1
        · show cv_rv bd (A2 64) (A2 65) (A2 74) made bd ch
          rw [aO 64 (by decide) (by decide) (by decide), aO 65 (by decide) (by decide) (by decide), aO 74 (by decide) (by decide) (by decide)]
          exact v3
        · intro e e0 e1
          rw [aO _ (by decide) (by decide) (by decide)]
          exact v4 e e0 e1
        · obtain ⟨g1, g2, g3, g4⟩ := v5
          refine ⟨by show 0 ≤ na + 1 ∧ na + 1 ≤ an + 1; omega, fun k k0 k1 => ?_, fun j k j0 jk k1 => ?_, fun i i0 i1' hi => ?_⟩
          · show (0 ≤ mo_up rl na an k ∧ mo_up rl na an k < an + 1) ∧ rm_t P.1 ta nc (A2 75 k) (mo_up al an l (mo_up rl na an k)) ∧ rm_t P.1 ta nc (A2 76 k) (mo_up ar an r (mo_up rl na an k)) ∧ A2 77 k = if mo_uw aw an true (mo_up rl na an k) = true then 0 else 1
            by_cases e : k = na
            · have e1 : mo_up rl na an k = an := if_pos e
              rw [e1, e, aL, aR, aG]
              have e2 : mo_up al an l an = l := if_pos rfl
              have e3 : mo_up ar an r an = r := if_pos rfl
              have e4 : mo_uw aw an true an = true := if_pos rfl
              rw [e2, e3, e4]
              exact ⟨by omega, hx, hy, rfl⟩
            · have e1 : mo_up rl na an k = rl k := if_neg e
              obtain ⟨q1, q2, q3, q4⟩ := g2 k k0 (by omega)
              rw [e1, aN _ _ e, aN _ _ e, aN _ _ e]
              have e2 : mo_up al an l (rl k) = al (rl k) := if_neg (by omega)
              have e3 : mo_up ar an r (rl k) = ar (rl k) := if_neg (by omega)
              have e4 : mo_uw aw an true (rl k) = aw (rl k) := if_neg (by omega)
              rw [e2, e3, e4]
              exact ⟨by omega, q2, q3, q4⟩
          · have e1 : mo_up rl na an j = rl j := if_neg (by omega)
            rw [e1]
            by_cases e : k = na
            · have e2 : mo_up rl na an k = an := if_pos e
              rw [e2]
              have := (g2 j j0 (by omega)).1
              omega
            · have e2 : mo_up rl na an k = rl k := if_neg e
              rw [e2]
              exact g3 j k j0 jk (by omega)
          · have hi : mo_uw aw an true i = true := hi
            have i1' : i < an + 1 := i1'
            by_cases e : i = an
            · exact ⟨na, by omega, by omega, (if_pos rfl).trans e.symm⟩
            · have e4 : mo_uw aw an true i = aw i := if_neg e
              rw [e4] at hi
              obtain ⟨k, k0, k1, k2⟩ := g4 i i0 (by omega) hi
              exact ⟨k, k0, by omega, (if_neg (by omega)).trans k2⟩
        · show rx_C P.1 sl (mo_up al an l) (mo_up ar an r) (mo_up rl na an) ta A2 (I1 32) ust nc ng (na + 1) (I1 32) cs
          refine rx_C_k hw (Int.le_refl ust) (Int.le_refl _) cs made ns an nc ng na (I1 32) _ _ _ _ b4 x12 ⟨fun c _ _ => ⟨rfl, by rw [aO _ (by decide) (by decide) (by decide)], by rw [aO _ (by decide) (by decide) (by decide)]⟩, fun j _ _ => by rw [aO _ (by decide) (by decide) (by decide)], fun g _ _ => ?_, fun e _ _ => by rw [aO _ (by decide) (by decide) (by decide)], fun k _ k1 => ⟨aN _ _ (by omega), aN _ _ (by omega)⟩, fun k _ _ => ?_, fun to _ _ rw' j hin => ?_⟩ (fun _ _ _ => rfl) (fun j _ j1 => ⟨if_neg (by omega), if_neg (by omega)⟩) (fun k _ k1 => if_neg (by omega)) (Int.le_refl _) (Int.le_refl _) (by omega) (Int.le_refl _) (Int.le_refl _)
          · rw [aO _ (by decide) (by decide) (by decide), aO _ (by decide) (by decide) (by decide), aO _ (by decide) (by decide) (by decide), aO _ (by decide) (by decide) (by decide), aO _ (by decide) (by decide) (by decide)]
            exact ⟨rfl, rfl, rfl, rfl, rfl⟩
          · rw [aO _ (by decide) (by decide) (by decide), aO _ (by decide) (by decide) (by decide), aO _ (by decide) (by decide) (by decide), aO _ (by decide) (by decide) (by decide), aO _ (by decide) (by decide) (by decide), aO _ (by decide) (by decide) (by decide), aO _ (by decide) (by decide) (by decide), aO _ (by decide) (by decide) (by decide), aO _ (by decide) (by decide) (by decide)]
            exact ⟨rfl, rfl, rfl, rfl, rfl, rfl, rfl, rfl, rfl⟩
          · rw [aO 71 (by decide) (by decide) (by decide), aO 72 (by decide) (by decide) (by decide)]
            refine ru_pt _ _ _ ?_
            rcases hin.2 with ⟨w, w2⟩ | ⟨rfl, w2⟩ | ⟨rfl, w2⟩
            · rcases (show rw' = 0 ∨ rw' = 1 ∨ rw' = 2 by omega) with rfl | rfl | rfl
              · show A2 63 j = A1 63 j
                rw [aO _ (by decide) (by decide) (by decide)]
              · show A2 64 j = A1 64 j
                rw [aO _ (by decide) (by decide) (by decide)]
              · show A2 65 j = A1 65 j
                rw [aO _ (by decide) (by decide) (by decide)]
            · show A2 74 j = A1 74 j
              rw [aO _ (by decide) (by decide) (by decide)]
            · exact aN 77 j (by omega)
        · show rm_td P.1 ta nc A2 ng behind todo
          exact rm_td_keep (Int.le_refl _) (Int.le_refl _) (fun _ _ _ => rfl) (fun g _ _ => by
            rw [aO _ (by decide) (by decide) (by decide), aO _ (by decide) (by decide) (by decide), aO _ (by decide) (by decide) (by decide), aO _ (by decide) (by decide) (by decide), aO _ (by decide) (by decide) (by decide)]
            exact ⟨rfl, rfl, rfl, rfl, rfl⟩) _ _ htd1
      · rw [if_neg cf] at hz
        rw [if_neg cf]
        subst hz
        refine ty_istore (pc := 6) (i := 4) (ks := []) (ls' := [_, _, _, _, _]) (by decide +kernel) rfl ?_
        refine ty_iload (pc := 8) (i := 4) (ks := []) (by decide +kernel) rfl ?_
        refine ty_iconst (pc := 10) (n := 2) (ks := []) (by decide +kernel) ?_
        -- at 11: .if_icmp .ne 5
        refine ty_icmp_ne (pc := 11) (off := 5) (t := 16) (ks := []) (by decide +kernel) (by omega) (by omega) (fun hc => ?_) (fun hc => ?_)
        · exact absurd rfl hc
        refine ty_iconst (pc := 14) (n := 0) (ks := []) (by decide +kernel) ?_
        -- at 15: .ireturn
        refine ty_ret_i (pc := 15) (ks := []) (ty := .boolean) (by decide +kernel) rfl (ty_fit_z (by omega)) ?_
        exact ⟨0, rfl, rfl, I1, A1, rfl, ⟨hf1.K, hE1⟩, .inr (.inr (.inl ⟨rfl, ta, rl, x1, x2, x3, x4.2, x9, x10, nc, ng, na, hCk⟩))⟩
    · rw [if_neg c1] at hz
      rw [if_neg c1]
      subst hz
      refine ty_istore (pc := 6) (i := 4) (ks := []) (ls' := [_, _, _, _, _]) (by decide +kernel) rfl ?_
      refine ty_iload (pc := 8) (i := 4) (ks := []) (by decide +kernel) rfl ?_
      refine ty_iconst (pc := 10) (n := 2) (ks := []) (by decide +kernel) ?_
      -- at 11: .if_icmp .ne 5
      refine ty_icmp_ne (pc := 11) (off := 5) (t := 16) (ks := []) (by decide +kernel) (by omega) (by omega) (fun hc => ?_) (fun hc => ?_)
      rotate_left
      · omega
      clear hc
      refine ty_aload_n (pc := 16) (i := 0) (ks := []) (by decide +kernel) rfl ?_
      refine ty_iload_n (pc := 17) (i := 3) (ks := []) (by decide +kernel) rfl ?_
      refine ty_putI (pc := 18) (idx := 270) (ci := 13) (f := 29) (by decide +kernel) (by first | rfl | assumption) rfl rfl (by first | exact hS.1 _ _ rfl | assumption) ?_
      rw [rm_sI]
      refine ty_iload (pc := 21) (i := 4) (ks := []) (by decide +kernel) rfl ?_
      -- at 23: .ifCond .ne 5
      refine ty_if_ne (pc := 23) (off := 5) (t := 28) (ks := []) (by decide +kernel) (by omega) (fun hc => ?_) (fun hc => ?_)
      · omega
      refine ty_iconst (pc := 26) (n := 1) (ks := []) (by decide +kernel) ?_
      -- at 27: .ireturn
      refine ty_ret_i (pc := 27) (ks := []) (ty := .boolean) (by decide +kernel) rfl (ty_fit_z (by omega)) ?_
      refine ⟨1, rfl, rfl, _, A1, rfl, ⟨hf1.K, hE1⟩, .inr (.inr (.inr ⟨rfl, ta, rl, nc, ng, na, ⟨x1, x2, x3, x4, x5, x6, x7, x8, x9, x10, ⟨v1, v2, v3, v4, ?_⟩, hCk⟩, htd1⟩))⟩
      obtain ⟨g1, g2, g3, g4⟩ := v5
      refine ⟨by show 0 ≤ na ∧ na ≤ an + 1; omega, fun k k0 k1 => ?_, g3, fun i i0 i1' hi => ?_⟩
      · obtain ⟨q1, q2, q3, q4⟩ := g2 k k0 k1
        show (0 ≤ rl k ∧ rl k < an + 1) ∧ rm_t P.1 ta nc (A1 75 k) (mo_up al an l (rl k)) ∧ rm_t P.1 ta nc (A1 76 k) (mo_up ar an r (rl k)) ∧ A1 77 k = if mo_uw (mo_uw aw an true) an false (rl k) = true then 0 else 1
        have e2 : mo_up al an l (rl k) = al (rl k) := if_neg (by omega)
        have e3 : mo_up ar an r (rl k) = ar (rl k) := if_neg (by omega)
        have e4 : mo_uw (mo_uw aw an true) an false (rl k) = aw (rl k) := (if_neg (by omega)).trans (if_neg (by omega))
        rw [e2, e3, e4]
        exact ⟨by omega, q2, q3, q4⟩
      · have hi : mo_uw (mo_uw aw an true) an false i = true := hi
        have i1' : i < an + 1 := i1'
        by_cases e : i = an
        · have : mo_uw (mo_uw aw an true) an false i = false := if_pos e
          rw [this] at hi
          exact absurd hi (by decide)
        · have e4 : mo_uw (mo_uw aw an true) an false i = aw i := (if_neg e).trans (if_neg e)
          rw [e4] at hi
          exact g4 i i0 (by omega) hi
end RXAP
