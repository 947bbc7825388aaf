/-! The reference calls. -/
theorem mo_step_MI {P : mo_P} {st came : Int} {sl al ar : Int → Int} {V : mo_V} {g : mo_Go} {todo : List mo_Go} {cs : List mo_Ch} {ans : Int} (h : mo_MI P (st, came, sl, al, ar, V, g :: todo, cs, ans)) (hst : st < 500) : mo_MI P (st + 1, came, sl, al, ar, V, todo, cs, ans) := by
  obtain ⟨b1, b2, ⟨a1, a2, a3, a4, a5, a6, a7, a8⟩, b4⟩ := h
  simp only at b1 b2 a1 a2 a3 a4 a5 a6 a7 a8 b4
  refine ⟨⟨show 0 ≤ st + 1 by omega, show st + 1 ≤ 500 by omega⟩, ⟨show V.1 ≤ 24 + 24 * (st + 1) by omega, show V.2.2.2.1 ≤ st + 1 by omega, show V.2.2.2.2.2.1 ≤ st + 1 by omega, show (cs.length : Int) ≤ st + 1 by omega⟩, ⟨a1, a2, a3, a4, a5, a6, a7, fun g hg => a8 g (List.mem_cons_of_mem _ hg)⟩, ?_⟩
  exact mo_CI_eq (show st ≤ st + 1 by omega) cs _ _ _ _ _ _ b4 (Int.le_refl _) (Int.le_refl _) (Int.le_refl _) (fun _ _ _ => rfl) (fun _ _ _ => ⟨rfl, rfl⟩)
section RXCA
variable {L : Nat} {xs : Nat → Int32} {S S0 : ty_S} {tau : dk_T} {s : Nat → Nat} {m : Nat}
/-- one choice more -/
theorem rx_push {P : mo_P} (hw : mo_wf P.1) {I I' : Nat → Int} {A A' : Nat → Int → Int} {ta rl : Int → Int} {nc ng na : Int} {st came : Int} {sl al ar : Int → Int} {V : mo_V} {todo : List mo_Go} {cs : List mo_Ch} {ans : Int} (hMI : mo_MI P (st, came, sl, al, ar, V, todo, cs, ans)) (h : rx_S I A P.1 ta rl nc ng na (st, came, sl, al, ar, V, todo, cs, ans)) (hnc : nc ≤ 24 * st) (hng : ng ≤ 24 * st + V.2.2.2.2.1.length) {t i x behind : Int} (hx : 0 ≤ x ∧ rm_t P.1 ta nc x t) (htd : rm_td P.1 ta nc A ng behind todo) (hI : I' = rm_u I 33 (cs.length + 1)) (hA : ∀ (q : Nat) (j : Int), ¬ (q = 82 ∨ q = 83 ∨ q = 84 ∨ q = 85 ∨ q = 86 ∨ q = 87 ∨ q = 88 ∨ q = 89 ∨ q = 90) ∨ j ≠ cs.length → A' q j = A q j)
    (hr : A' 82 cs.length = x ∧ A' 83 cs.length = i ∧ A' 84 cs.length = behind ∧ A' 85 cs.length = I 25 ∧ A' 86 cs.length = I 26 ∧ A' 87 cs.length = I 28 ∧ A' 88 cs.length = I 32 ∧ A' 89 cs.length = I 34 ∧ A' 90 cs.length = I 35) : rx_S I' A' P.1 ta rl nc ng na (st, came, sl, al, ar, V, todo, (t, i, todo, V) :: cs, ans) ∧ rm_td P.1 ta nc A' ng behind todo := by
  subst hI
  obtain ⟨b1, b2, b3, b4⟩ := hMI
  obtain ⟨x1, x2, x3, x4, x5, x6, x7, x8, x9, x10, x11, x12⟩ := h
  simp only at b1 b2 b3 b4 x2 x3 x4 x5 x6 x7 x8 x9 x10 x11 x12
  have hO : ∀ q, ¬ (q = 82 ∨ q = 83 ∨ q = 84 ∨ q = 85 ∨ q = 86 ∨ q = 87 ∨ q = 88 ∨ q = 89 ∨ q = 90) → A' q = A q := fun q hq => by
    funext j
    exact hA q j (.inl hq)
  have hrr : rr A' = rr A := rr_e (hO _ (by decide)) (hO _ (by decide)) (hO _ (by decide)) (hO _ (by decide)) (hO _ (by decide))
  have hT : A' 71 = A 71 := hO _ (by decide)
  have hOl : A' 72 = A 72 := hO _ (by decide)
  have hV : rx_V P.1 sl al ar rl ta A' (rr A) nc na V := rx_V_k hw x11 b3.2.2.1 x5.2.1 (Int.le_refl _) (fun c _ _ => ⟨rfl, by rw [hO _ (by decide)], by rw [hO _ (by decide)]⟩) (fun j _ _ => by rw [hO _ (by decide)]) (fun c c0 c1 => by omega) (fun e _ _ => ⟨by rw [hO _ (by decide)], rfl⟩) (fun k _ _ => ⟨⟨by rw [hO _ (by decide)], by rw [hO _ (by decide)]⟩, rfl⟩) (fun _ _ _ => ⟨rfl, rfl⟩) (fun _ _ _ => rfl)
  have htd' : rm_td P.1 ta nc A' ng behind todo := rm_td_keep (Int.le_refl _) (Int.le_refl _) (fun _ _ _ => rfl) (fun g _ _ => by
    rw [hO _ (by decide), hO _ (by decide), hO _ (by decide), hO _ (by decide), hO _ (by decide)]
    exact ⟨rfl, rfl, rfl, rfl, rfl⟩) _ _ htd
  obtain ⟨r1, r2, r3, r4, r5, r6, r7, r8, r9⟩ := hr
  refine ⟨⟨x1, x2, ⟨x3.1, by rw [hT]; exact x3.2⟩, x4, x5, x6, x7, x8, ?_, x10, by rw [hrr]; exact hV, x, nc, ng, na, I 32, ⟨r1, r2, r4.trans x5.1, r5.trans x4.1, r6.trans x6.1, r7, r8.trans x7, r9.trans x8⟩, ⟨x5.2.1, Int.le_refl _, hnc⟩, ⟨x6.2.1, Int.le_refl _, hng⟩, ⟨x11.2.2.2.2.1.1, Int.le_refl _⟩, ⟨x3.1.1, Int.le_refl _⟩, hx, by rw [r3]; exact htd', ?_, ?_⟩, htd'⟩
  · show (cs.length : Int) + 1 = (((t, i, todo, V) :: cs).length : Int)
    rw [List.length_cons]
    omega
  · show rx_V P.1 sl al ar rl ta A' (ru (A' 71) (A' 72) (I 32) (I 32 - I 32).toNat (rr A')) nc na V
    rw [Int.sub_self, hrr]
    exact hV
  · refine rx_C_k hw (Int.le_refl st) (Int.le_refl _) cs V.1 V.2.2.2.1 V.2.2.2.2.2.1 nc ng na (I 32) _ _ _ _ b4 x12 ⟨fun c _ _ => ⟨rfl, by rw [hO _ (by decide)], by rw [hO _ (by decide)]⟩, fun j _ _ => by rw [hO _ (by decide)], fun g _ _ => ?_, fun e _ _ => by rw [hO _ (by decide)], fun k _ _ => ⟨by rw [hO _ (by decide)], by rw [hO _ (by decide)]⟩, fun k k0 k1 => ?_, fun to _ _ r j _ => by rw [hT, hOl, hrr]⟩ (fun _ _ _ => rfl) (fun _ _ _ => ⟨rfl, rfl⟩) (fun _ _ _ => rfl) (Int.le_refl _) (Int.le_refl _) (Int.le_refl _) (Int.le_refl _) (Int.le_refl _)
    · rw [hO _ (by decide), hO _ (by decide), hO _ (by decide), hO _ (by decide), hO _ (by decide)]
      exact ⟨rfl, rfl, rfl, rfl, rfl⟩
    · exact ⟨hA _ _ (.inr (by omega)), hA _ _ (.inr (by omega)), hA _ _ (.inr (by omega)), hA _ _ (.inr (by omega)), hA _ _ (.inr (by omega)), hA _ _ (.inr (by omega)), hA _ _ (.inr (by omega)), hA _ _ (.inr (by omega)), hA _ _ (.inr (by omega))⟩
theorem mo_push_MI {P : mo_P} {st came : Int} {sl al ar : Int → Int} {V : mo_V} {todo : List mo_Go} {cs : List mo_Ch} {ans : Int} (h : mo_MI P (st, came, sl, al, ar, V, todo, cs, ans)) (hcl : (cs.length : Int) + 1 ≤ st) (hmd : V.1 ≤ 24 * st) {t i : Int} (hi : 0 ≤ i ∧ i < (P.2.1 : Int)) (hf : mo_fits P t i = true) (ht : mo_ok P.1 V.1 t) : mo_MI P (st, came, sl, al, ar, V, todo, (t, i, todo, V) :: cs, ans) := by
  obtain ⟨b1, b2, b3, b4⟩ := h
  refine ⟨b1, ⟨b2.1, b2.2.1, b2.2.2.1, ?_⟩, b3, ⟨Int.le_refl _, hmd, Int.le_refl _, Int.le_refl _⟩, ⟨hi.1, hi.2, hf, ht⟩, b3, b4⟩
  show ((((t, i, todo, V) :: cs).length : Nat) : Int) ≤ st
  rw [List.length_cons]
  omega
theorem rx_call (d : Nat) (hS : ty_st S) (hU : dk_U S0 tau) (hs : dk_s tau s m) {I : Nat → Int} {A : Nat → Int → Int} (hrp : rp I A tau s m) {ta rl : Int → Int} {nc ng na : Int} {st came : Int} {sl al ar : Int → Int} {made : Int} {bd : Int → Int} {ch : Int → List Int} {ns : Int} {dn : List Int} {an : Int} {aw : Int → Bool} {todo : List mo_Go} {cs : List mo_Ch} {ans : Int} (hMI : mo_MI (dk_P S0 tau s m) (st, came, sl, al, ar, (made, bd, ch, ns, dn, an, aw), todo, cs, ans)) (hX : rx_S I A (dk_G S0 tau) ta rl nc ng na (st, came, sl, al, ar, (made, bd, ch, ns, dn, an, aw), todo, cs, ans)) (hnc : nc ≤ 24 * st) (hng : ng ≤ 24 * st + dn.length) (hmd : made ≤ 24 * st) (hcl : (cs.length : Int) + 1 ≤ st) {t x behind : Int} (ht : mo_ok (dk_G S0 tau) made t) (hx0 : 0 ≤ x) (hxt : rm_t (dk_G S0 tau) ta nc x t) (htd : rm_td (dk_G S0 tau) ta nc A ng behind todo) {R : Int × mo_M} (hR : R = if mo_next (dk_P S0 tau s m) t 0 = -1 then (0, (st, came, sl, al, ar, (made, bd, ch, ns, dn, an, aw), todo, cs, ans)) else mo_fin (dk_P S0 tau s m) (mo_ta (dk_P S0 tau s m) (st, came, sl, al, ar, (made, bd, ch, ns, dn, an, aw), todo, (if mo_next (dk_P S0 tau s m) t (mo_next (dk_P S0 tau s m) t 0 + 1) = -1 then cs else (t, mo_next (dk_P S0 tau s m) t (mo_next (dk_P S0 tau s m) t 0 + 1), todo, (made, bd, ch, ns, dn, an, aw)) :: cs), ans) t (mo_next (dk_P S0 tau s m) t 0) cs.length).2.1 (mo_ta (dk_P S0 tau s m) (st, came, sl, al, ar, (made, bd, ch, ns, dn, an, aw), todo, (if mo_next (dk_P S0 tau s m) t (mo_next (dk_P S0 tau s m) t 0 + 1) = -1 then cs else (t, mo_next (dk_P S0 tau s m) t (mo_next (dk_P S0 tau s m) t 0 + 1), todo, (made, bd, ch, ns, dn, an, aw)) :: cs), ans) t (mo_next (dk_P S0 tau s m) t 0) cs.length).2.2.1 (mo_bdy (dk_P S0 tau s m) (mo_ta (dk_P S0 tau s m) (st, came, sl, al, ar, (made, bd, ch, ns, dn, an, aw), todo, (if mo_next (dk_P S0 tau s m) t (mo_next (dk_P S0 tau s m) t 0 + 1) = -1 then cs else (t, mo_next (dk_P S0 tau s m) t (mo_next (dk_P S0 tau s m) t 0 + 1), todo, (made, bd, ch, ns, dn, an, aw)) :: cs), ans) t (mo_next (dk_P S0 tau s m) t 0) cs.length).2.2.2) an) :
    ty_C L xs (d + 8) 140 [.inr (.inr (some (94, 0))), .inl (ty_J x), .inl (ty_J behind)] (rm_s S I A) (rx_p S I A (dk_P S0 tau s m) R) := by
  have hw : mo_wf (dk_G S0 tau) := dk_wf hU
  have hm := hs.1
  have hst := hMI.1
  simp only at hst
  have hX0 := hX
  obtain ⟨x1, x2, x3, x4, x5, x6, x7, x8, x9, x10, ⟨v1, v2, v3, v4, v5⟩, x12⟩ := hX
  simp only at x2 x3 x4 x5 x6 x7 x8 x9 x10 x12 v1 v2 v3 v4 v5
  obtain ⟨hxn, hxta⟩ := rm_t_cell hw hxt hx0 ht (fun c c0 c1 => (v1 c c0 c1).1.1)
  obtain ⟨-, -, xl, xa, -⟩ := v1 x hx0 hxn
  rw [hxta] at xl xa
  have hlr : 0 ≤ mo_l (dk_G S0 tau) t ∧ mo_l (dk_G S0 tau) t ≤ 65535 := (hw _ ht.2.1).2.1
  have har : 0 ≤ mo_a (dk_G S0 tau) t ∧ mo_a (dk_G S0 tau) t ≤ 3 := (hw _ ht.2.1).2.2.1
  have hcl0 := hrp.1.1
  have hN0 := rm_nextFit (L := L) (xs := xs) (S := S) (d + 5) hS hU hs hrp ⟨hx0, by omega⟩ xl hlr xa har (i0 := 0) ⟨Int.le_refl _, by omega⟩
  have sp0 := mo_next_spec (P := dk_P S0 tau s m) (t := t) (Int.le_refl 0)
  refine ty_enter (ml := 6) (ls := [_, _, _, _, _, _]) rfl rfl (Nat.le_of_ble_eq_true rfl) ?_
  refine ty_aload_n (pc := 0) (i := 0) (ks := []) (by decide +kernel) rfl ?_
  refine ty_iconst (pc := 1) (n := 0) (ks := []) (by decide +kernel) ?_
  refine ty_iload_n (pc := 2) (i := 1) (ks := []) (by decide +kernel) rfl ?_
  -- at 3: .invokevirtual 286
  refine ty_callv (pc := 3) (idx := 286) (m := 126) (n := 3) (c := 13) (vs := [_, _]) (r := []) (by decide +kernel) rfl rfl (Nat.le_of_ble_eq_true rfl) (by first | rfl | assumption) (by first | exact hS.1 _ _ rfl | assumption) hN0 ?_
  rintro _ S1 ⟨c, rfl, hc0, rfl⟩
  refine ty_KI ?_
  by_cases e0 : mo_next (dk_P S0 tau s m) t 0 = -1
  · rw [if_pos e0] at hc0 hR
    refine ty_istore_n (pc := 6) (i := 3) (ks := []) (ls' := [_, _, _, _, _, _]) (by decide +kernel) rfl ?_
    refine ty_aload_n (pc := 7) (i := 0) (ks := []) (by decide +kernel) rfl ?_
    refine ty_getI (pc := 8) (idx := 289) (ci := 13) (f := 33) (by decide +kernel) (by first | rfl | assumption) rfl (by first | exact hS.1 _ _ rfl | assumption) (fun v hv => ?_)
    simp (decide := true) only [rm_I, rm_u, rm_w, ty_sI, ty_sR, ty_sA, ty_sQ, ty_mA, ty_mQ, ↓reduceIte, false_and, and_false, true_and, and_true, and_self] at hv
    subst hv
    refine ty_istore (pc := 11) (i := 4) (ks := []) (ls' := [_, _, _, _, _, _]) (by decide +kernel) rfl ?_
    refine ty_iload_n (pc := 13) (i := 3) (ks := []) (by decide +kernel) rfl ?_
    refine ty_aload_n (pc := 14) (i := 0) (ks := []) (by decide +kernel) rfl ?_
    refine ty_getI (pc := 15) (idx := 171) (ci := 13) (f := 8) (by decide +kernel) (by first | rfl | assumption) rfl (by first | exact hS.1 _ _ rfl | assumption) (fun v hv => ?_)
    simp (decide := true) only [rm_I, rm_u, rm_w, ty_sI, ty_sR, ty_sA, ty_sQ, ty_mA, ty_mQ, ↓reduceIte, false_and, and_false, true_and, and_true, and_self] at hv
    subst hv
    -- at 18: .if_icmp .ne 5
    rw [hcl0]
    refine ty_icmp_ne (pc := 18) (off := 5) (t := 23) (ks := []) (by decide +kernel) (by omega) (by omega) (fun hc => ?_) (fun hc => ?_)
    · exact absurd hc0 hc
    refine ty_iconst (pc := 21) (n := 0) (ks := []) (by decide +kernel) ?_
    -- at 22: .ireturn
    refine ty_ret_i (pc := 22) (ks := []) (ty := .boolean) (by decide +kernel) rfl (ty_fit_z (by omega)) ?_
    subst hR
    exact ⟨0, rfl, rfl, I, A, rfl, ⟨.refl, hX0.E hMI⟩, .inr (.inr (.inl ⟨rfl, ta, rl, hX0.B⟩))⟩
  · rw [if_neg e0] at hc0 hR
    obtain ⟨q1, q2, q3⟩ := sp0.resolve_left e0
    have q2 : mo_next (dk_P S0 tau s m) t 0 < (m : Int) := q2
    rw [← hc0] at q1 q2 q3 hR
    have hN1 := rm_nextFit (L := L) (xs := xs) (S := S) (d + 5) hS hU hs hrp ⟨hx0, by omega⟩ xl hlr xa har (i0 := c + 1) ⟨by omega, by omega⟩
    have sp1 := mo_next_spec (P := dk_P S0 tau s m) (t := t) (show 0 ≤ c + 1 by omega)
    refine ty_istore_n (pc := 6) (i := 3) (ks := []) (ls' := [_, _, _, _, _, _]) (by decide +kernel) rfl ?_
    refine ty_aload_n (pc := 7) (i := 0) (ks := []) (by decide +kernel) rfl ?_
    refine ty_getI (pc := 8) (idx := 289) (ci := 13) (f := 33) (by decide +kernel) (by first | rfl | assumption) rfl (by first | exact hS.1 _ _ rfl | assumption) (fun v hv => ?_)
    simp (decide := true) only [rm_I, rm_u, rm_w, ty_sI, ty_sR, ty_sA, ty_sQ, ty_mA, ty_mQ, ↓reduceIte, false_and, and_false, true_and, and_true, and_self] at hv
    subst hv
    refine ty_istore (pc := 11) (i := 4) (ks := []) (ls' := [_, _, _, _, _, _]) (by decide +kernel) rfl ?_
    refine ty_iload_n (pc := 13) (i := 3) (ks := []) (by decide +kernel) rfl ?_
    refine ty_aload_n (pc := 14) (i := 0) (ks := []) (by decide +kernel) rfl ?_
    refine ty_getI (pc := 15) (idx := 171) (ci := 13) (f := 8) (by decide +kernel) (by first | rfl | assumption) rfl (by first | exact hS.1 _ _ rfl | assumption) (fun v hv => ?_)
    simp (decide := true) only [rm_I, rm_u, rm_w, ty_sI, ty_sR, ty_sA, ty_sQ, ty_mA, ty_mQ, ↓reduceIte, false_and, and_false, true_and, and_true, and_self] at hv
    subst hv
    -- at 18: .if_icmp .ne 5
    rw [hcl0, x9]
    refine ty_icmp_ne (pc := 18) (off := 5) (t := 23) (ks := []) (by decide +kernel) (by omega) (by omega) (fun hc => ?_) (fun hc => ?_)
    rotate_left
    · omega
    clear hc
    refine ty_aload_n (pc := 23) (i := 0) (ks := []) (by decide +kernel) rfl ?_
    refine ty_iload_n (pc := 24) (i := 3) (ks := []) (by decide +kernel) rfl ?_
    refine ty_iconst (pc := 25) (n := 1) (ks := []) (by decide +kernel) ?_
    refine ty_iadd (pc := 26) (ks := []) (by decide +kernel) ?_
    refine ty_iload_n (pc := 27) (i := 1) (ks := []) (by decide +kernel) rfl ?_
    -- at 28: .invokevirtual 286
    refine ty_callv (pc := 28) (idx := 286) (m := 126) (n := 3) (c := 13) (vs := [_, _]) (r := []) (by decide +kernel) rfl rfl (Nat.le_of_ble_eq_true rfl) (by first | rfl | assumption) (by first | exact hS.1 _ _ rfl | assumption) hN1 ?_
    rintro _ S1 ⟨c1, rfl, hc1, rfl⟩
    refine ty_KI ?_
    refine ty_istore (pc := 31) (i := 5) (ks := []) (ls' := [_, _, _, _, _, _]) (by decide +kernel) rfl ?_
    refine ty_iload (pc := 33) (i := 5) (ks := []) (by decide +kernel) rfl ?_
    refine ty_aload_n (pc := 35) (i := 0) (ks := []) (by decide +kernel) rfl ?_
    refine ty_getI (pc := 36) (idx := 171) (ci := 13) (f := 8) (by decide +kernel) (by first | rfl | assumption) rfl (by first | exact hS.1 _ _ rfl | assumption) (fun v hv => ?_)
    simp (decide := true) only [rm_I, rm_u, rm_w, ty_sI, ty_sR, ty_sA, ty_sQ, ty_mA, ty_mQ, ↓reduceIte, false_and, and_false, true_and, and_true, and_self] at hv
    subst hv
    -- at 39: .if_icmp .ge 122
    rw [hcl0]
    by_cases e1 : mo_next (dk_P S0 tau s m) t (c + 1) = -1
    · rw [if_pos e1] at hc1 hR
      refine ty_icmp_ge (pc := 39) (off := 122) (t := 161) (ks := []) (by decide +kernel) (by omega) (by omega) (fun hc => ?_) (fun hc => ?_)
      rotate_left
      · omega
      clear hc
      have hTk := rx_take (L := L) (xs := xs) (S := S) d hS hU hs hrp hMI hX0 hnc hng hmd (bar := cs.length) (x := x) (behind := behind) ⟨q1, q2⟩ ht q3 ⟨by omega, by omega⟩ hx0 hxt htd
      refine ty_aload_n (pc := 161) (i := 0) (ks := []) (by decide +kernel) rfl ?_
      refine ty_iload_n (pc := 162) (i := 3) (ks := []) (by decide +kernel) rfl ?_
      refine ty_iload_n (pc := 163) (i := 1) (ks := []) (by decide +kernel) rfl ?_
      refine ty_iload_n (pc := 164) (i := 2) (ks := []) (by decide +kernel) rfl ?_
      refine ty_iload (pc := 165) (i := 4) (ks := []) (by decide +kernel) rfl ?_
      -- at 167: .invokevirtual 295
      refine ty_callv (pc := 167) (idx := 295) (m := 129) (n := 5) (c := 13) (vs := [_, _, _, _]) (r := []) (by decide +kernel) rfl rfl (Nat.le_of_ble_eq_true rfl) (by first | rfl | assumption) (by first | exact hS.1 _ _ rfl | assumption) hTk ?_
      rintro _ S2 hq
      obtain ⟨z, rfl, hz, q⟩ := hq
      refine ty_KI ?_
      have hzr : 0 ≤ z ∧ z ≤ 1 := by rw [hz]; split <;> omega
      refine ty_ret_i (pc := 170) (ks := []) (ty := .boolean) (by decide +kernel) rfl (ty_fit_z (by omega)) ?_
      rw [hR]
      exact ⟨z, rfl, hz, q⟩
    · rw [if_neg e1] at hc1 hR
      obtain ⟨w1, w2, w3⟩ := sp1.resolve_left e1
      have w2 : mo_next (dk_P S0 tau s m) t (c + 1) < (m : Int) := w2
      rw [← hc1] at w1 w2 w3 hR
      refine ty_icmp_ge (pc := 39) (off := 122) (t := 161) (ks := []) (by decide +kernel) (by omega) (by omega) (fun hc => ?_) (fun hc => ?_)
      · omega
      clear hc
      refine ty_aload_n (pc := 42) (i := 0) (ks := []) (by decide +kernel) rfl ?_
      refine ty_getS (b := (82, 0)) (pc := 43) (idx := 102) (ci := 13) (f := 52) (by decide +kernel) (by first | rfl | assumption) rfl (by first | exact hS.1 _ _ rfl | assumption) (by first | exact hS.2.2 _ _ _ _ rfl | assumption) ?_
      refine ty_aload_n (pc := 46) (i := 0) (ks := []) (by decide +kernel) rfl ?_
      refine ty_getI (pc := 47) (idx := 289) (ci := 13) (f := 33) (by decide +kernel) (by first | rfl | assumption) rfl (by first | exact hS.1 _ _ rfl | assumption) (fun v hv => ?_)
      simp (decide := true) only [rm_I, rm_u, rm_w, ty_sI, ty_sR, ty_sA, ty_sQ, ty_mA, ty_mQ, ↓reduceIte, false_and, and_false, true_and, and_true, and_self] at hv
      subst hv
      refine ty_iload_n (pc := 50) (i := 1) (ks := []) (by decide +kernel) rfl ?_
      refine ty_iastore (pc := 51) (ks := []) (by decide +kernel) (by first | rfl | assumption) (by rfl) (by first | exact hS.1 _ _ rfl | assumption) (by first | exact hS.2.1 _ _ _ rfl | assumption) (by omega) ?_
      rw [rm_sA (by decide)]
      refine ty_aload_n (pc := 52) (i := 0) (ks := []) (by decide +kernel) rfl ?_
      refine ty_getS (b := (83, 0)) (pc := 53) (idx := 105) (ci := 13) (f := 53) (by decide +kernel) (by first | rfl | assumption) rfl (by first | exact hS.1 _ _ rfl | assumption) (by first | exact hS.2.2 _ _ _ _ rfl | assumption) ?_
      refine ty_aload_n (pc := 56) (i := 0) (ks := []) (by decide +kernel) rfl ?_
      refine ty_getI (pc := 57) (idx := 289) (ci := 13) (f := 33) (by decide +kernel) (by first | rfl | assumption) rfl (by first | exact hS.1 _ _ rfl | assumption) (fun v hv => ?_)
      simp (decide := true) only [rm_I, rm_u, rm_w, ty_sI, ty_sR, ty_sA, ty_sQ, ty_mA, ty_mQ, ↓reduceIte, false_and, and_false, true_and, and_true, and_self] at hv
      subst hv
      refine ty_iload (pc := 60) (i := 5) (ks := []) (by decide +kernel) rfl ?_
      refine ty_iastore (pc := 62) (ks := []) (by decide +kernel) (by first | rfl | assumption) (by rfl) (by first | exact hS.1 _ _ rfl | assumption) (by first | exact hS.2.1 _ _ _ rfl | assumption) (by omega) ?_
      rw [rm_sA (by decide)]
      refine ty_aload_n (pc := 63) (i := 0) (ks := []) (by decide +kernel) rfl ?_
      refine ty_getS (b := (84, 0)) (pc := 64) (idx := 108) (ci := 13) (f := 54) (by decide +kernel) (by first | rfl | assumption) rfl (by first | exact hS.1 _ _ rfl | assumption) (by first | exact hS.2.2 _ _ _ _ rfl | assumption) ?_
      refine ty_aload_n (pc := 67) (i := 0) (ks := []) (by decide +kernel) rfl ?_
      refine ty_getI (pc := 68) (idx := 289) (ci := 13) (f := 33) (by decide +kernel) (by first | rfl | assumption) rfl (by first | exact hS.1 _ _ rfl | assumption) (fun v hv => ?_)
      simp (decide := true) only [rm_I, rm_u, rm_w, ty_sI, ty_sR, ty_sA, ty_sQ, ty_mA, ty_mQ, ↓reduceIte, false_and, and_false, true_and, and_true, and_self] at hv
      subst hv
      refine ty_iload_n (pc := 71) (i := 2) (ks := []) (by decide +kernel) rfl ?_
      refine ty_iastore (pc := 72) (ks := []) (by decide +kernel) (by first | rfl | assumption) (by rfl) (by first | exact hS.1 _ _ rfl | assumption) (by first | exact hS.2.1 _ _ _ rfl | assumption) (by omega) ?_
      rw [rm_sA (by decide)]
      refine ty_aload_n (pc := 73) (i := 0) (ks := []) (by decide +kernel) rfl ?_
      refine ty_getS (b := (85, 0)) (pc := 74) (idx := 111) (ci := 13) (f := 55) (by decide +kernel) (by first | rfl | assumption) rfl (by first | exact hS.1 _ _ rfl | assumption) (by first | exact hS.2.2 _ _ _ _ rfl | assumption) ?_
      refine ty_aload_n (pc := 77) (i := 0) (ks := []) (by decide +kernel) rfl ?_
      refine ty_getI (pc := 78) (idx := 289) (ci := 13) (f := 33) (by decide +kernel) (by first | rfl | assumption) rfl (by first | exact hS.1 _ _ rfl | assumption) (fun v hv => ?_)
      simp (decide := true) only [rm_I, rm_u, rm_w, ty_sI, ty_sR, ty_sA, ty_sQ, ty_mA, ty_mQ, ↓reduceIte, false_and, and_false, true_and, and_true, and_self] at hv
      subst hv
      refine ty_aload_n (pc := 81) (i := 0) (ks := []) (by decide +kernel) rfl ?_
      refine ty_getI (pc := 82) (idx := 196) (ci := 13) (f := 25) (by decide +kernel) (by first | rfl | assumption) rfl (by first | exact hS.1 _ _ rfl | assumption) (fun v hv => ?_)
      simp (decide := true) only [rm_I, rm_u, rm_w, ty_sI, ty_sR, ty_sA, ty_sQ, ty_mA, ty_mQ, ↓reduceIte, false_and, and_false, true_and, and_true, and_self] at hv
      subst hv
      refine ty_iastore (pc := 85) (ks := []) (by decide +kernel) (by first | rfl | assumption) (by rfl) (by first | exact hS.1 _ _ rfl | assumption) (by first | exact hS.2.1 _ _ _ rfl | assumption) (by omega) ?_
      rw [rm_sA (by decide)]
      refine ty_aload_n (pc := 86) (i := 0) (ks := []) (by decide +kernel) rfl ?_
      refine ty_getS (b := (86, 0)) (pc := 87) (idx := 114) (ci := 13) (f := 56) (by decide +kernel) (by first | rfl | assumption) rfl (by first | exact hS.1 _ _ rfl | assumption) (by first | exact hS.2.2 _ _ _ _ rfl | assumption) ?_
      refine ty_aload_n (pc := 90) (i := 0) (ks := []) (by decide +kernel) rfl ?_
      refine ty_getI (pc := 91) (idx := 289) (ci := 13) (f := 33) (by decide +kernel) (by first | rfl | assumption) rfl (by first | exact hS.1 _ _ rfl | assumption) (fun v hv => ?_)
      simp (decide := true) only [rm_I, rm_u, rm_w, ty_sI, ty_sR, ty_sA, ty_sQ, ty_mA, ty_mQ, ↓reduceIte, false_and, and_false, true_and, and_true, and_self] at hv
      subst hv
      refine ty_aload_n (pc := 94) (i := 0) (ks := []) (by decide +kernel) rfl ?_
      refine ty_getI (pc := 95) (idx := 190) (ci := 13) (f := 26) (by decide +kernel) (by first | rfl | assumption) rfl (by first | exact hS.1 _ _ rfl | assumption) (fun v hv => ?_)
      simp (decide := true) only [rm_I, rm_u, rm_w, ty_sI, ty_sR, ty_sA, ty_sQ, ty_mA, ty_mQ, ↓reduceIte, false_and, and_false, true_and, and_true, and_self] at hv
      subst hv
      refine ty_iastore (pc := 98) (ks := []) (by decide +kernel) (by first | rfl | assumption) (by rfl) (by first | exact hS.1 _ _ rfl | assumption) (by first | exact hS.2.1 _ _ _ rfl | assumption) (by omega) ?_
      rw [rm_sA (by decide)]
      refine ty_aload_n (pc := 99) (i := 0) (ks := []) (by decide +kernel) rfl ?_
      refine ty_getS (b := (87, 0)) (pc := 100) (idx := 117) (ci := 13) (f := 57) (by decide +kernel) (by first | rfl | assumption) rfl (by first | exact hS.1 _ _ rfl | assumption) (by first | exact hS.2.2 _ _ _ _ rfl | assumption) ?_
      refine ty_aload_n (pc := 103) (i := 0) (ks := []) (by decide +kernel) rfl ?_
      refine ty_getI (pc := 104) (idx := 289) (ci := 13) (f := 33) (by decide +kernel) (by first | rfl | assumption) rfl (by first | exact hS.1 _ _ rfl | assumption) (fun v hv => ?_)
      simp (decide := true) only [rm_I, rm_u, rm_w, ty_sI, ty_sR, ty_sA, ty_sQ, ty_mA, ty_mQ, ↓reduceIte, false_and, and_false, true_and, and_true, and_self] at hv
      subst hv
      refine ty_aload_n (pc := 107) (i := 0) (ks := []) (by decide +kernel) rfl ?_
      refine ty_getI (pc := 108) (idx := 209) (ci := 13) (f := 28) (by decide +kernel) (by first | rfl | assumption) rfl (by first | exact hS.1 _ _ rfl | assumption) (fun v hv => ?_)
      simp (decide := true) only [rm_I, rm_u, rm_w, ty_sI, ty_sR, ty_sA, ty_sQ, ty_mA, ty_mQ, ↓reduceIte, false_and, and_false, true_and, and_true, and_self] at hv
      subst hv
      refine ty_iastore (pc := 111) (ks := []) (by decide +kernel) (by first | rfl | assumption) (by rfl) (by first | exact hS.1 _ _ rfl | assumption) (by first | exact hS.2.1 _ _ _ rfl | assumption) (by omega) ?_
      rw [rm_sA (by decide)]
      refine ty_aload_n (pc := 112) (i := 0) (ks := []) (by decide +kernel) rfl ?_
      refine ty_getS (b := (88, 0)) (pc := 113) (idx := 120) (ci := 13) (f := 58) (by decide +kernel) (by first | rfl | assumption) rfl (by first | exact hS.1 _ _ rfl | assumption) (by first | exact hS.2.2 _ _ _ _ rfl | assumption) ?_
      refine ty_aload_n (pc := 116) (i := 0) (ks := []) (by decide +kernel) rfl ?_
      refine ty_getI (pc := 117) (idx := 289) (ci := 13) (f := 33) (by decide +kernel) (by first | rfl | assumption) rfl (by first | exact hS.1 _ _ rfl | assumption) (fun v hv => ?_)
      simp (decide := true) only [rm_I, rm_u, rm_w, ty_sI, ty_sR, ty_sA, ty_sQ, ty_mA, ty_mQ, ↓reduceIte, false_and, and_false, true_and, and_true, and_self] at hv
      subst hv
      refine ty_aload_n (pc := 120) (i := 0) (ks := []) (by decide +kernel) rfl ?_
      refine ty_getI (pc := 121) (idx := 219) (ci := 13) (f := 32) (by decide +kernel) (by first | rfl | assumption) rfl (by first | exact hS.1 _ _ rfl | assumption) (fun v hv => ?_)
      simp (decide := true) only [rm_I, rm_u, rm_w, ty_sI, ty_sR, ty_sA, ty_sQ, ty_mA, ty_mQ, ↓reduceIte, false_and, and_false, true_and, and_true, and_self] at hv
      subst hv
      refine ty_iastore (pc := 124) (ks := []) (by decide +kernel) (by first | rfl | assumption) (by rfl) (by first | exact hS.1 _ _ rfl | assumption) (by first | exact hS.2.1 _ _ _ rfl | assumption) (by omega) ?_
      rw [rm_sA (by decide)]
      refine ty_aload_n (pc := 125) (i := 0) (ks := []) (by decide +kernel) rfl ?_
      refine ty_getS (b := (89, 0)) (pc := 126) (idx := 123) (ci := 13) (f := 59) (by decide +kernel) (by first | rfl | assumption) rfl (by first | exact hS.1 _ _ rfl | assumption) (by first | exact hS.2.2 _ _ _ _ rfl | assumption) ?_
      refine ty_aload_n (pc := 129) (i := 0) (ks := []) (by decide +kernel) rfl ?_
      refine ty_getI (pc := 130) (idx := 289) (ci := 13) (f := 33) (by decide +kernel) (by first | rfl | assumption) rfl (by first | exact hS.1 _ _ rfl | assumption) (fun v hv => ?_)
      simp (decide := true) only [rm_I, rm_u, rm_w, ty_sI, ty_sR, ty_sA, ty_sQ, ty_mA, ty_mQ, ↓reduceIte, false_and, and_false, true_and, and_true, and_self] at hv
      subst hv
      refine ty_aload_n (pc := 133) (i := 0) (ks := []) (by decide +kernel) rfl ?_
      refine ty_getI (pc := 134) (idx := 292) (ci := 13) (f := 34) (by decide +kernel) (by first | rfl | assumption) rfl (by first | exact hS.1 _ _ rfl | assumption) (fun v hv => ?_)
      simp (decide := true) only [rm_I, rm_u, rm_w, ty_sI, ty_sR, ty_sA, ty_sQ, ty_mA, ty_mQ, ↓reduceIte, false_and, and_false, true_and, and_true, and_self] at hv
      subst hv
      refine ty_iastore (pc := 137) (ks := []) (by decide +kernel) (by first | rfl | assumption) (by rfl) (by first | exact hS.1 _ _ rfl | assumption) (by first | exact hS.2.1 _ _ _ rfl | assumption) (by omega) ?_
      rw [rm_sA (by decide)]
      refine ty_aload_n (pc := 138) (i := 0) (ks := []) (by decide +kernel) rfl ?_
      refine ty_getS (b := (90, 0)) (pc := 139) (idx := 126) (ci := 13) (f := 60) (by decide +kernel) (by first | rfl | assumption) rfl (by first | exact hS.1 _ _ rfl | assumption) (by first | exact hS.2.2 _ _ _ _ rfl | assumption) ?_
      refine ty_aload_n (pc := 142) (i := 0) (ks := []) (by decide +kernel) rfl ?_
      refine ty_getI (pc := 143) (idx := 289) (ci := 13) (f := 33) (by decide +kernel) (by first | rfl | assumption) rfl (by first | exact hS.1 _ _ rfl | assumption) (fun v hv => ?_)
      simp (decide := true) only [rm_I, rm_u, rm_w, ty_sI, ty_sR, ty_sA, ty_sQ, ty_mA, ty_mQ, ↓reduceIte, false_and, and_false, true_and, and_true, and_self] at hv
      subst hv
      refine ty_aload_n (pc := 146) (i := 0) (ks := []) (by decide +kernel) rfl ?_
      refine ty_getI (pc := 147) (idx := 263) (ci := 13) (f := 35) (by decide +kernel) (by first | rfl | assumption) rfl (by first | exact hS.1 _ _ rfl | assumption) (fun v hv => ?_)
      simp (decide := true) only [rm_I, rm_u, rm_w, ty_sI, ty_sR, ty_sA, ty_sQ, ty_mA, ty_mQ, ↓reduceIte, false_and, and_false, true_and, and_true, and_self] at hv
      subst hv
      refine ty_iastore (pc := 150) (ks := []) (by decide +kernel) (by first | rfl | assumption) (by rfl) (by first | exact hS.1 _ _ rfl | assumption) (by first | exact hS.2.1 _ _ _ rfl | assumption) (by omega) ?_
      rw [rm_sA (by decide)]
      refine ty_aload_n (pc := 151) (i := 0) (ks := []) (by decide +kernel) rfl ?_
      refine ty_dup (pc := 152) (ks := []) (by decide +kernel) rfl ?_
      refine ty_getI (pc := 153) (idx := 289) (ci := 13) (f := 33) (by decide +kernel) (by first | rfl | assumption) rfl (by first | exact hS.1 _ _ rfl | assumption) (fun v hv => ?_)
      simp (decide := true) only [rm_I, rm_u, rm_w, ty_sI, ty_sR, ty_sA, ty_sQ, ty_mA, ty_mQ, ↓reduceIte, false_and, and_false, true_and, and_true, and_self] at hv
      subst hv
      refine ty_iconst (pc := 156) (n := 1) (ks := []) (by decide +kernel) ?_
      refine ty_iadd (pc := 157) (ks := []) (by decide +kernel) ?_
      refine ty_putI (pc := 158) (idx := 289) (ci := 13) (f := 33) (by decide +kernel) (by first | rfl | assumption) rfl rfl (by first | exact hS.1 _ _ rfl | assumption) ?_
      rw [rm_sI]
      -- at 161: .aload_n 0
      rw [x9]
      generalize hA' : rm_w (rm_w (rm_w (rm_w (rm_w (rm_w (rm_w (rm_w (rm_w A _ _ _) _ _ _) _ _ _) _ _ _) _ _ _) _ _ _) _ _ _) _ _ _) _ _ _ = A'
      have hpu := rx_push (P := dk_P S0 tau s m) (I' := rm_u I 33 (cs.length + 1)) (A' := A') (t := t) (i := c1) (x := x) (behind := behind) hw hMI hX0 hnc hng ⟨hx0, hxt⟩ htd rfl (fun q j hqj => by
        rw [← hA']
        rcases hqj with hq | hq
        · simp only [not_or] at hq
          simp [rm_w, hq.1, hq.2.1, hq.2.2.1, hq.2.2.2.1, hq.2.2.2.2.1, hq.2.2.2.2.2.1, hq.2.2.2.2.2.2.1, hq.2.2.2.2.2.2.2.1, hq.2.2.2.2.2.2.2.2]
        · simp [rm_w, hq]) (by rw [← hA']; simp [rm_w])
      have hK : rx_K I A (rm_u I 33 (cs.length + 1)) A' := by
        refine ⟨⟨rfl, rfl, rfl, rfl⟩, ?_, ?_, ?_, ?_⟩
        all_goals
          rw [← hA']
          funext j
          simp [rm_w]
      clear hA'
      have hMI' := mo_push_MI hMI hcl hmd (t := t) (i := c1) ⟨by omega, w2⟩ w3 ht
      have hTk := rx_take (L := L) (xs := xs) (S := S) d hS hU hs (rp_K hrp hK) hMI' hpu.1 hnc hng hmd (bar := cs.length) (x := x) (behind := behind) ⟨q1, q2⟩ ht q3 ⟨by omega, by omega⟩ hx0 hxt hpu.2
      refine ty_aload_n (pc := 161) (i := 0) (ks := []) (by decide +kernel) rfl ?_
      refine ty_iload_n (pc := 162) (i := 3) (ks := []) (by decide +kernel) rfl ?_
      refine ty_iload_n (pc := 163) (i := 1) (ks := []) (by decide +kernel) rfl ?_
      refine ty_iload_n (pc := 164) (i := 2) (ks := []) (by decide +kernel) rfl ?_
      refine ty_iload (pc := 165) (i := 4) (ks := []) (by decide +kernel) rfl ?_
      -- at 167: .invokevirtual 295
      refine ty_callv (pc := 167) (idx := 295) (m := 129) (n := 5) (c := 13) (vs := [_, _, _, _]) (r := []) (by decide +kernel) rfl rfl (Nat.le_of_ble_eq_true rfl) (by first | rfl | assumption) (by first | exact hS.1 _ _ rfl | assumption) hTk ?_
      rintro _ S2 hq
      obtain ⟨z, rfl, hz, q⟩ := rx_p_K hK hq
      refine ty_KI ?_
      have hzr : 0 ≤ z ∧ z ≤ 1 := by rw [hz]; split <;> omega
      refine ty_ret_i (pc := 170) (ks := []) (ty := .boolean) (by decide +kernel) rfl (ty_fit_z (by omega)) ?_
      rw [hR]
      exact ⟨z, rfl, hz, q⟩
end RXCA
