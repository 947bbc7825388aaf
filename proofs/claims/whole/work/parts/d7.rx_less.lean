/-! The reference: less, and sleep. -/
theorem mo_fin_id {P : mo_P} {st came : Int} {sl al ar : Int → Int} {made : Int} {bd : Int → Int} {ch : Int → List Int} {ns : Int} {dn : List Int} {an : Int} {aw : Int → Bool} {todo : List mo_Go} {cs : List mo_Ch} {ans : Int} (hst : st ≤ 500) : mo_fin P (st, came, sl, al, ar, (made, bd, ch, ns, dn, an, aw), todo, cs, ans) [] [] an = (1, (st, came, sl, al, ar, (made, bd, ch, ns, dn, an, aw), todo, cs, ans)) := by
  rw [mo_fin_nil hst, show (an - an).toNat = 0 by omega]
  rfl
section RXL
variable {L : Nat} {xs : Nat → Int32} {S : ty_S}
theorem rx_less (d : Nat) (hS : ty_st S) {P : mo_P} (hW : mo_PW P) {I : Nat → Int} {A : Nat → Int → Int} {ta rl : Int → Int} {nc ng na : Int} {st came : Int} {sl al ar : Int → Int} {made : Int} {bd : Int → Int} {ch : Int → List Int} {ns : Int} {dn : List Int} {an : Int} {aw : Int → Bool} {todo : List mo_Go} {cs : List mo_Ch} {ans : Int} (hMI : mo_MI P (st, came, sl, al, ar, (made, bd, ch, ns, dn, an, aw), todo, cs, ans)) (hX : rx_S I A P.1 ta rl nc ng na (st, came, sl, al, ar, (made, bd, ch, ns, dn, an, aw), todo, cs, ans)) {l r x y behind : Int} (hl : mo_ok P.1 made l) (hr : mo_ok P.1 made r) (hx : rm_t P.1 ta nc x l) (hy : rm_t P.1 ta nc y r) (htd : rm_td P.1 ta nc A ng behind todo) {R : Int × mo_M} (hR : R = (if 0 ≤ mo_val P.1 bd l ∧ 0 ≤ mo_val P.1 bd r ∧ (48 ≤ mo_l P.1 (mo_val P.1 bd l) ∧ mo_l P.1 (mo_val P.1 bd l) ≤ 57) ∧ 48 ≤ mo_l P.1 (mo_val P.1 bd r) ∧ mo_l P.1 (mo_val P.1 bd r) ≤ 57 then (if mo_l P.1 (mo_val P.1 bd l) < mo_l P.1 (mo_val P.1 bd r) then 1 else 0) else 3, (st, came, sl, al, ar, (made, bd, ch, ns, dn, an, aw), todo, cs, ans))) :
    ty_C L xs (d + 2) 142 [.inr (.inr (some (94, 0))), .inl (ty_J x), .inl (ty_J y), .inl (ty_J behind)] (rm_s S I A) (rx_p S I A P R) := by
  have hw := hW.1
  have hRh := rx_S_R hMI hX
  have hE := hX.E hMI
  obtain ⟨b1, b2, ⟨a1, a2, a3, a4, a5, a6, a7, a8⟩, b4⟩ := hMI
  simp only at b1 b2 a1 a2 a3 a4 a5 a6 a7 a8 b4
  have hX0 := hX
  obtain ⟨x1, x2, x3, x4, x5, x6, x7, x8, x9, x10, ⟨v1, v2, v3, v4, v5⟩, x12⟩ := hX
  simp only at x2 x3 x4 x5 x6 x7 x8 x9 x10 x12 v1 v2 v3 v4 v5
  have hta : ∀ c, 0 ≤ c → c < nc → 0 ≤ ta c := fun c c0 c1 => (v1 c c0 c1).1.1
  obtain ⟨vx1, vx2⟩ := rm_t_v hw hl hta hx
  obtain ⟨vy1, vy2⟩ := rm_t_v hw hr hta hy
  have hbd : ∀ v, 0 ≤ v → v < made → rm_b ta nc (A 63 v) (bd v) := v2
  have hi1 := mo_val_isval hw a2 (.inl hl)
  have hi2 := mo_val_isval hw a2 (.inl hr)
  refine ty_enter (ml := 6) (ls := [_, _, _, _, _, _]) rfl rfl (Nat.le_of_ble_eq_true rfl) ?_
  refine ty_aload_n (pc := 0) (i := 0) (ks := []) (by decide +kernel) rfl ?_
  refine ty_iload_n (pc := 1) (i := 1) (ks := []) (by decide +kernel) rfl ?_
  -- at 2: .invokevirtual 240
  refine ty_callv (pc := 2) (idx := 240) (m := 134) (n := 2) (c := 13) (vs := [_]) (r := []) (by decide +kernel) rfl rfl (Nat.le_of_ble_eq_true rfl) (by first | rfl | assumption) (by first | exact hS.1 _ _ rfl | assumption) (rm_value (L := L) (xs := xs) (A := A) _ hS a2 hbd hRh.2.2.2.2.2.2.2.1.2 hRh.2.2.2.2.2.2.2.2.1.2 vx1 vx2) ?_
  rintro _ S1 ⟨u, rfl, hu, rfl⟩
  refine ty_KI ?_
  rw [mo_vv_nf hw hl] at hu
  refine ty_istore (pc := 5) (i := 4) (ks := []) (ls' := [_, _, _, _, _, _]) (by decide +kernel) rfl ?_
  refine ty_aload_n (pc := 7) (i := 0) (ks := []) (by decide +kernel) rfl ?_
  refine ty_iload_n (pc := 8) (i := 2) (ks := []) (by decide +kernel) rfl ?_
  -- at 9: .invokevirtual 240
  refine ty_callv (pc := 9) (idx := 240) (m := 134) (n := 2) (c := 13) (vs := [_]) (r := []) (by decide +kernel) rfl rfl (Nat.le_of_ble_eq_true rfl) (by first | rfl | assumption) (by first | exact hS.1 _ _ rfl | assumption) (rm_value (L := L) (xs := xs) (A := A) _ hS a2 hbd hRh.2.2.2.2.2.2.2.1.2 hRh.2.2.2.2.2.2.2.2.1.2 vy1 vy2) ?_
  rintro _ S1 ⟨w, rfl, hwv, rfl⟩
  refine ty_KI ?_
  rw [mo_vv_nf hw hr] at hwv
  obtain ⟨u1, u2, u3⟩ := rm_isval_var hu hi1
  obtain ⟨w1, w2, w3⟩ := rm_isval_var hwv hi2
  generalize mo_val P.1 bd l = X at hR hu u1 u2 u3 hi1
  generalize mo_val P.1 bd r = Y at hR hwv w1 w2 w3 hi2
  have hur : -13000 ≤ u ∧ u < 24000 := by
    by_cases e : u < 0
    · have := u2 e
      omega
    · have := u3 (by omega)
      omega
  have hwr : -13000 ≤ w ∧ w < 24000 := by
    by_cases e : w < 0
    · have := w2 e
      omega
    · have := w3 (by omega)
      omega
  -- no digits
  have bad : ¬ (0 ≤ X ∧ 0 ≤ Y ∧ (48 ≤ mo_l P.1 X ∧ mo_l P.1 X ≤ 57) ∧ 48 ≤ mo_l P.1 Y ∧ mo_l P.1 Y ≤ 57) → ty_W L xs (d + 1) 142 63 [some (.inr (.inr (some (94, 0)))), some (.inl (ty_J x)), some (.inl (ty_J y)), some (.inl (ty_J behind)), some (.inl (ty_J u)), some (.inl (ty_J w))] [] (rm_s S (rm_u I 29 behind) A) (rx_p S I A P R) := by
    intro hn
    rw [if_neg hn] at hR
    subst hR
    refine ty_aload_n (pc := 63) (i := 0) (ks := []) (by decide +kernel) rfl ?_
    refine ty_iconst (pc := 64) (n := 4) (ks := []) (by decide +kernel) ?_
    refine ty_putI (pc := 65) (idx := 135) (ci := 13) (f := 11) (by decide +kernel) (by first | rfl | assumption) rfl rfl (by first | exact hS.1 _ _ rfl | assumption) ?_
    rw [rm_sI]
    refine ty_iconst (pc := 68) (n := 0) (ks := []) (by decide +kernel) ?_
    -- at 69: .ireturn
    refine ty_ret_i (pc := 69) (ks := []) (ty := .boolean) (by decide +kernel) rfl (ty_fit_z (by omega)) ?_
    exact ⟨0, rfl, rfl, _, A, rfl, ⟨⟨⟨rfl, rfl, rfl, rfl⟩, rfl, rfl, rfl, rfl⟩, hE⟩, .inr (.inl ⟨rfl, rfl⟩)⟩
  refine ty_istore (pc := 12) (i := 5) (ks := []) (ls' := [_, _, _, _, _, _]) (by decide +kernel) rfl ?_
  refine ty_aload_n (pc := 14) (i := 0) (ks := []) (by decide +kernel) rfl ?_
  refine ty_iload_n (pc := 15) (i := 3) (ks := []) (by decide +kernel) rfl ?_
  refine ty_putI (pc := 16) (idx := 270) (ci := 13) (f := 29) (by decide +kernel) (by first | rfl | assumption) rfl rfl (by first | exact hS.1 _ _ rfl | assumption) ?_
  rw [rm_sI]
  refine ty_iload (pc := 19) (i := 4) (ks := []) (by decide +kernel) rfl ?_
  -- at 21: .ifCond .lt 42
  refine ty_if_lt (pc := 21) (off := 42) (t := 63) (ks := []) (by decide +kernel) (by omega) (fun hc => ?_) (fun hc => ?_)
  · exact bad (by omega)
  have hu0 := hc
  clear hc
  refine ty_iload (pc := 24) (i := 5) (ks := []) (by decide +kernel) rfl ?_
  -- at 26: .ifCond .lt 37
  refine ty_if_lt (pc := 26) (off := 37) (t := 63) (ks := []) (by decide +kernel) (by omega) (fun hc => ?_) (fun hc => ?_)
  · exact bad (by omega)
  have hw0 := hc
  clear hc
  obtain ⟨un, uta, uok⟩ := u3 hu0
  obtain ⟨wn, wta, wok⟩ := w3 hw0
  obtain ⟨-, -, us, -⟩ := v1 u hu0 un
  obtain ⟨-, -, ws, -⟩ := v1 w hw0 wn
  rw [uta] at us
  rw [wta] at ws
  have hlx : 0 ≤ mo_l P.1 X ∧ mo_l P.1 X ≤ 65535 := (hw _ uok.2.1).2.1
  have hly : 0 ≤ mo_l P.1 Y ∧ mo_l P.1 Y ≤ 65535 := (hw _ wok.2.1).2.1
  refine ty_aload_n (pc := 29) (i := 0) (ks := []) (by decide +kernel) rfl ?_
  refine ty_getS (b := (60, 0)) (pc := 30) (idx := 35) (ci := 13) (f := 14) (by decide +kernel) (by first | rfl | assumption) rfl (by first | exact hS.1 _ _ rfl | assumption) (by first | exact hS.2.2 _ _ _ _ rfl | assumption) ?_
  refine ty_iload (pc := 33) (i := 4) (ks := []) (by decide +kernel) rfl ?_
  refine ty_iaload (pc := 35) (ks := []) (by decide +kernel) (by first | rfl | assumption) (by rfl) (by first | exact hS.1 _ _ rfl | assumption) (by first | exact hS.2.1 _ _ _ rfl | assumption) (by omega) (fun v hv => ?_)
  rw [rm_A (by decide)] at hv
  first | (simp (decide := true) only [rm_w, ty_sI, ty_sR, ty_sA, ty_sQ, ty_mA, ty_mQ, ↓reduceIte, false_and, and_false, true_and, and_true, and_self] at hv) | skip
  subst hv
  refine ty_bipush (pc := 36) (n := 48) (ks := []) (by decide +kernel) (by omega) ?_
  refine ty_bipush (pc := 38) (n := 57) (ks := []) (by decide +kernel) (by omega) ?_
  -- at 40: .invokestatic 138
  rw [us]
  refine ty_calls (pc := 40) (idx := 138) (m := 105) (n := 3) (c := 0) (av := [_, _, _]) (r := []) (by decide +kernel) rfl rfl (Nat.le_of_ble_eq_true rfl) (rm_in d (v := mo_l P.1 X) (a := 48) (b := 57) (by omega) (by decide) (by decide)) ?_
  rintro _ S2 ⟨z1, rfl, hz1, rfl⟩
  refine ty_KI ?_
  have hz1r : 0 ≤ z1 ∧ z1 ≤ 1 := by rw [hz1]; split <;> omega
  refine ty_if_eq (pc := 43) (off := 20) (t := 63) (ks := []) (by decide +kernel) (by omega) (fun hc => ?_) (fun hc => ?_)
  · refine bad (fun q => ?_)
    rw [if_pos q.2.2.1] at hz1
    omega
  have hdx : 48 ≤ mo_l P.1 X ∧ mo_l P.1 X ≤ 57 := by
    by_cases q : 48 ≤ mo_l P.1 X ∧ mo_l P.1 X ≤ 57
    · exact q
    · rw [if_neg q] at hz1
      exact absurd hz1 hc
  clear hc hz1 hz1r
  refine ty_aload_n (pc := 46) (i := 0) (ks := []) (by decide +kernel) rfl ?_
  refine ty_getS (b := (60, 0)) (pc := 47) (idx := 35) (ci := 13) (f := 14) (by decide +kernel) (by first | rfl | assumption) rfl (by first | exact hS.1 _ _ rfl | assumption) (by first | exact hS.2.2 _ _ _ _ rfl | assumption) ?_
  refine ty_iload (pc := 50) (i := 5) (ks := []) (by decide +kernel) rfl ?_
  refine ty_iaload (pc := 52) (ks := []) (by decide +kernel) (by first | rfl | assumption) (by rfl) (by first | exact hS.1 _ _ rfl | assumption) (by first | exact hS.2.1 _ _ _ rfl | assumption) (by omega) (fun v hv => ?_)
  rw [rm_A (by decide)] at hv
  first | (simp (decide := true) only [rm_w, ty_sI, ty_sR, ty_sA, ty_sQ, ty_mA, ty_mQ, ↓reduceIte, false_and, and_false, true_and, and_true, and_self] at hv) | skip
  subst hv
  refine ty_bipush (pc := 53) (n := 48) (ks := []) (by decide +kernel) (by omega) ?_
  refine ty_bipush (pc := 55) (n := 57) (ks := []) (by decide +kernel) (by omega) ?_
  -- at 57: .invokestatic 138
  rw [ws]
  refine ty_calls (pc := 57) (idx := 138) (m := 105) (n := 3) (c := 0) (av := [_, _, _]) (r := []) (by decide +kernel) rfl rfl (Nat.le_of_ble_eq_true rfl) (rm_in d (v := mo_l P.1 Y) (a := 48) (b := 57) (by omega) (by decide) (by decide)) ?_
  rintro _ S2 ⟨z2, rfl, hz2, rfl⟩
  refine ty_KI ?_
  have hz2r : 0 ≤ z2 ∧ z2 ≤ 1 := by rw [hz2]; split <;> omega
  refine ty_if_ne (pc := 60) (off := 10) (t := 70) (ks := []) (by decide +kernel) (by omega) (fun hc => ?_) (fun hc => ?_)
  rotate_left
  · refine bad (fun q => ?_)
    rw [if_pos q.2.2.2] at hz2
    omega
  have hdy : 48 ≤ mo_l P.1 Y ∧ mo_l P.1 Y ≤ 57 := by
    by_cases q : 48 ≤ mo_l P.1 Y ∧ mo_l P.1 Y ≤ 57
    · exact q
    · rw [if_neg q] at hz2
      exact absurd hz2 hc
  clear hc hz2 hz2r bad
  rw [if_pos ⟨by omega, by omega, hdx, hdy⟩] at hR
  refine ty_aload_n (pc := 70) (i := 0) (ks := []) (by decide +kernel) rfl ?_
  refine ty_getS (b := (60, 0)) (pc := 71) (idx := 35) (ci := 13) (f := 14) (by decide +kernel) (by first | rfl | assumption) rfl (by first | exact hS.1 _ _ rfl | assumption) (by first | exact hS.2.2 _ _ _ _ rfl | assumption) ?_
  refine ty_iload (pc := 74) (i := 4) (ks := []) (by decide +kernel) rfl ?_
  refine ty_iaload (pc := 76) (ks := []) (by decide +kernel) (by first | rfl | assumption) (by rfl) (by first | exact hS.1 _ _ rfl | assumption) (by first | exact hS.2.1 _ _ _ rfl | assumption) (by omega) (fun v hv => ?_)
  rw [rm_A (by decide)] at hv
  first | (simp (decide := true) only [rm_w, ty_sI, ty_sR, ty_sA, ty_sQ, ty_mA, ty_mQ, ↓reduceIte, false_and, and_false, true_and, and_true, and_self] at hv) | skip
  subst hv
  refine ty_aload_n (pc := 77) (i := 0) (ks := []) (by decide +kernel) rfl ?_
  refine ty_getS (b := (60, 0)) (pc := 78) (idx := 35) (ci := 13) (f := 14) (by decide +kernel) (by first | rfl | assumption) rfl (by first | exact hS.1 _ _ rfl | assumption) (by first | exact hS.2.2 _ _ _ _ rfl | assumption) ?_
  refine ty_iload (pc := 81) (i := 5) (ks := []) (by decide +kernel) rfl ?_
  refine ty_iaload (pc := 83) (ks := []) (by decide +kernel) (by first | rfl | assumption) (by rfl) (by first | exact hS.1 _ _ rfl | assumption) (by first | exact hS.2.1 _ _ _ rfl | assumption) (by omega) (fun v hv => ?_)
  rw [rm_A (by decide)] at hv
  first | (simp (decide := true) only [rm_w, ty_sI, ty_sR, ty_sA, ty_sQ, ty_mA, ty_mQ, ↓reduceIte, false_and, and_false, true_and, and_true, and_self] at hv) | skip
  subst hv
  -- at 84: .if_icmp .ge 7
  rw [us, ws]
  have hXt := rx_S_todo (v := behind) hX0
  refine ty_icmp_ge (pc := 84) (off := 7) (t := 91) (ks := []) (by decide +kernel) (by omega) (by omega) (fun hc => ?_) (fun hc => ?_)
  · rw [if_neg (by omega)] at hR
    subst hR
    refine ty_iconst (pc := 91) (n := 0) (ks := []) (by decide +kernel) ?_
    -- at 92: .ireturn
    refine ty_ret_i (pc := 92) (ks := []) (ty := .boolean) (by decide +kernel) rfl (ty_fit_z (by omega)) ?_
    exact ⟨0, rfl, rfl, _, A, rfl, ⟨⟨⟨rfl, rfl, rfl, rfl⟩, rfl, rfl, rfl, rfl⟩, hE⟩, .inr (.inr (.inl ⟨rfl, ta, rl, hXt.B⟩))⟩
  · rw [if_pos hc] at hR
    subst hR
    refine ty_iconst (pc := 87) (n := 1) (ks := []) (by decide +kernel) ?_
    refine ty_goto (pc := 88) (off := 4) (t := 92) (ks := []) (by decide +kernel) ?_
    -- at 92: .ireturn
    refine ty_ret_i (pc := 92) (ks := []) (ty := .boolean) (by decide +kernel) rfl (ty_fit_z (by omega)) ?_
    exact ⟨1, rfl, rfl, _, A, rfl, ⟨⟨⟨rfl, rfl, rfl, rfl⟩, rfl, rfl, rfl, rfl⟩, hE⟩, .inr (.inr (.inr ⟨rfl, ta, rl, nc, ng, na, hXt, htd⟩))⟩
theorem rx_sleep (d : Nat) (hS : ty_st S) {P : mo_P} (hW : mo_PW P) {I : Nat → Int} {A : Nat → Int → Int} {ta rl : Int → Int} {nc ng na : Int} {st came : Int} {sl al ar : Int → Int} {made : Int} {bd : Int → Int} {ch : Int → List Int} {ns : Int} {dn : List Int} {an : Int} {aw : Int → Bool} {todo : List mo_Go} {cs : List mo_Ch} {ans : Int} (hMI : mo_MI P (st, came, sl, al, ar, (made, bd, ch, ns, dn, an, aw), todo, cs, ans)) (hX : rx_S I A P.1 ta rl nc ng na (st, came, sl, al, ar, (made, bd, ch, ns, dn, an, aw), todo, cs, ans)) {l r x y behind : Int} (hl : mo_ok P.1 made l) (hr : mo_ok P.1 made r) (hx : rm_t P.1 ta nc x l) (hy : rm_t P.1 ta nc y r) (hy0 : 0 ≤ y) (htd : rm_td P.1 ta nc A ng behind todo) (hns : ns < 500) (hng : ng ≤ 24 * st + dn.length) (htl : I 32 + 4 ≤ 4 * st) {R : Int × mo_M} (hR : R = (1, if mo_val P.1 bd l < 0 then (st, came, mo_up sl ns r, al, ar, (made, bd, mo_upc ch (-1 - mo_val P.1 bd l) (ch (-1 - mo_val P.1 bd l) ++ [ns]), ns + 1, dn, an, aw), todo, cs, ans) else (st, came, sl, al, ar, (made, bd, ch, ns, dn, an, aw), (40, r, r, 0) :: todo, cs, ans))) :
    ty_C L xs (d + 3) 143 [.inr (.inr (some (94, 0))), .inl (ty_J x), .inl (ty_J y), .inl (ty_J behind)] (rm_s S I A) (rx_p S I A P R) := by
  have hw := hW.1
  have hRh := rx_S_R hMI hX
  have hE := hX.E hMI
  have hdn := rx_dn hMI
  have hMI0 := hMI
  obtain ⟨b1, b2, ⟨a1, a2, a3, a4, a5, a6, a7, a8⟩, b4⟩ := hMI
  simp only at b1 b2 a1 a2 a3 a4 a5 a6 a7 a8 b4 hdn
  have hX0 := hX
  obtain ⟨x1, x2, x3, x4, x5, x6, x7, x8, x9, x10, ⟨v1, v2, v3, v4, v5⟩, x12⟩ := hX
  simp only at x2 x3 x4 x5 x6 x7 x8 x9 x10 x12 v1 v2 v3 v4 v5
  have hta : ∀ c, 0 ≤ c → c < nc → 0 ≤ ta c := fun c c0 c1 => (v1 c c0 c1).1.1
  obtain ⟨vx1, vx2⟩ := rm_t_v hw hl hta hx
  have hbd : ∀ v, 0 ≤ v → v < made → rm_b ta nc (A 63 v) (bd v) := v2
  have hi1 := mo_val_isval hw a2 (.inl hl)
  refine ty_enter (ml := 5) (ls := [_, _, _, _, _]) rfl rfl (Nat.le_of_ble_eq_true rfl) ?_
  refine ty_aload_n (pc := 0) (i := 0) (ks := []) (by decide +kernel) rfl ?_
  refine ty_iload_n (pc := 1) (i := 1) (ks := []) (by decide +kernel) rfl ?_
  -- at 2: .invokevirtual 240
  refine ty_callv (pc := 2) (idx := 240) (m := 134) (n := 2) (c := 13) (vs := [_]) (r := []) (by decide +kernel) rfl rfl (Nat.le_of_ble_eq_true rfl) (by first | rfl | assumption) (by first | exact hS.1 _ _ rfl | assumption) ((rm_value (L := L) (xs := xs) (A := A) d hS a2 hbd hRh.2.2.2.2.2.2.2.1.2 hRh.2.2.2.2.2.2.2.2.1.2 vx1 vx2).deeper (by omega)) ?_
  rintro _ S1 ⟨u, rfl, hu, rfl⟩
  refine ty_KI ?_
  rw [mo_vv_nf hw hl] at hu
  obtain ⟨u1, u2, u3⟩ := rm_isval_var hu hi1
  generalize mo_val P.1 bd l = X at hR hu u1 u2 u3 hi1
  have hur : -13000 ≤ u ∧ u < 24000 := by
    by_cases e : u < 0
    · have := u2 e
      omega
    · have := u3 (by omega)
      omega
  refine ty_istore (pc := 5) (i := 4) (ks := []) (ls' := [_, _, _, _, _]) (by decide +kernel) rfl ?_
  refine ty_aload_n (pc := 7) (i := 0) (ks := []) (by decide +kernel) rfl ?_
  refine ty_iload_n (pc := 8) (i := 3) (ks := []) (by decide +kernel) rfl ?_
  refine ty_putI (pc := 9) (idx := 270) (ci := 13) (f := 29) (by decide +kernel) (by first | rfl | assumption) rfl rfl (by first | exact hS.1 _ _ rfl | assumption) ?_
  rw [rm_sI]
  refine ty_iload (pc := 12) (i := 4) (ks := []) (by decide +kernel) rfl ?_
  -- at 14: .ifCond .lt 19
  by_cases eu : u < 0
  · obtain ⟨rfl, ua, ub, uf⟩ := u2 eu
    rw [if_pos eu] at hR
    refine ty_if_lt (pc := 14) (off := 19) (t := 33) (ks := []) (by decide +kernel) (by omega) (fun hc => ?_) (fun hc => ?_)
    rotate_left
    · omega
    clear hc
    refine ty_aload_n (pc := 33) (i := 0) (ks := []) (by decide +kernel) rfl ?_
    refine ty_getS (b := (73, 0)) (pc := 34) (idx := 75) (ci := 13) (f := 43) (by decide +kernel) (by first | rfl | assumption) rfl (by first | exact hS.1 _ _ rfl | assumption) (by first | exact hS.2.2 _ _ _ _ rfl | assumption) ?_
    refine ty_aload_n (pc := 37) (i := 0) (ks := []) (by decide +kernel) rfl ?_
    refine ty_getI (pc := 38) (idx := 292) (ci := 13) (f := 34) (by decide +kernel) (by first | rfl | assumption) rfl (by first | exact hS.1 _ _ rfl | assumption) (fun v hv => ?_)
    simp (decide := true) only [rm_I, rm_u, rm_w, ty_sI, ty_sR, ty_sA, ty_sQ, ty_mA, ty_mQ, ↓reduceIte, false_and, and_false, true_and, and_true, and_self] at hv
    subst hv
    refine ty_iload_n (pc := 41) (i := 2) (ks := []) (by decide +kernel) rfl ?_
    refine ty_iastore (pc := 42) (ks := []) (by decide +kernel) (by first | rfl | assumption) (by rfl) (by first | exact hS.1 _ _ rfl | assumption) (by first | exact hS.2.1 _ _ _ rfl | assumption) (by omega) ?_
    rw [rm_sA (by decide)]
    refine ty_aload_n (pc := 43) (i := 0) (ks := []) (by decide +kernel) rfl ?_
    refine ty_getS (b := (74, 0)) (pc := 44) (idx := 78) (ci := 13) (f := 44) (by decide +kernel) (by first | rfl | assumption) rfl (by first | exact hS.1 _ _ rfl | assumption) (by first | exact hS.2.2 _ _ _ _ rfl | assumption) ?_
    refine ty_aload_n (pc := 47) (i := 0) (ks := []) (by decide +kernel) rfl ?_
    refine ty_getI (pc := 48) (idx := 292) (ci := 13) (f := 34) (by decide +kernel) (by first | rfl | assumption) rfl (by first | exact hS.1 _ _ rfl | assumption) (fun v hv => ?_)
    simp (decide := true) only [rm_I, rm_u, rm_w, ty_sI, ty_sR, ty_sA, ty_sQ, ty_mA, ty_mQ, ↓reduceIte, false_and, and_false, true_and, and_true, and_self] at hv
    subst hv
    refine ty_iconst (pc := 51) (n := (-1)) (ks := []) (by decide +kernel) ?_
    refine ty_iastore (pc := 52) (ks := []) (by decide +kernel) (by first | rfl | assumption) (by rfl) (by first | exact hS.1 _ _ rfl | assumption) (by first | exact hS.2.1 _ _ _ rfl | assumption) (by omega) ?_
    rw [rm_sA (by decide)]
    refine ty_aload_n (pc := 53) (i := 0) (ks := []) (by decide +kernel) rfl ?_
    refine ty_dup (pc := 54) (ks := []) (by decide +kernel) rfl ?_
    refine ty_getI (pc := 55) (idx := 292) (ci := 13) (f := 34) (by decide +kernel) (by first | rfl | assumption) rfl (by first | exact hS.1 _ _ rfl | assumption) (fun v hv => ?_)
    simp (decide := true) only [rm_I, rm_u, rm_w, ty_sI, ty_sR, ty_sA, ty_sQ, ty_mA, ty_mQ, ↓reduceIte, false_and, and_false, true_and, and_true, and_self] at hv
    subst hv
    refine ty_iconst (pc := 58) (n := 1) (ks := []) (by decide +kernel) ?_
    refine ty_iadd (pc := 59) (ks := []) (by decide +kernel) ?_
    refine ty_putI (pc := 60) (idx := 292) (ci := 13) (f := 34) (by decide +kernel) (by first | rfl | assumption) rfl rfl (by first | exact hS.1 _ _ rfl | assumption) ?_
    rw [rm_sI]
    refine ty_aload_n (pc := 63) (i := 0) (ks := []) (by decide +kernel) rfl ?_
    refine ty_iconst (pc := 64) (n := (-1)) (ks := []) (by decide +kernel) ?_
    refine ty_iload (pc := 65) (i := 4) (ks := []) (by decide +kernel) rfl ?_
    refine ty_isub (pc := 67) (ks := []) (by decide +kernel) ?_
    refine ty_aload_n (pc := 68) (i := 0) (ks := []) (by decide +kernel) rfl ?_
    refine ty_getI (pc := 69) (idx := 292) (ci := 13) (f := 34) (by decide +kernel) (by first | rfl | assumption) rfl (by first | exact hS.1 _ _ rfl | assumption) (fun v hv => ?_)
    simp (decide := true) only [rm_I, rm_u, rm_w, ty_sI, ty_sR, ty_sA, ty_sQ, ty_mA, ty_mQ, ↓reduceIte, false_and, and_false, true_and, and_true, and_self] at hv
    subst hv
    refine ty_iconst (pc := 72) (n := 1) (ks := []) (by decide +kernel) ?_
    refine ty_isub (pc := 73) (ks := []) (by decide +kernel) ?_
    refine ty_aload_n (pc := 74) (i := 0) (ks := []) (by decide +kernel) rfl ?_
    refine ty_getI (pc := 75) (idx := 292) (ci := 13) (f := 34) (by decide +kernel) (by first | rfl | assumption) rfl (by first | exact hS.1 _ _ rfl | assumption) (fun v hv => ?_)
    simp (decide := true) only [rm_I, rm_u, rm_w, ty_sI, ty_sR, ty_sA, ty_sQ, ty_mA, ty_mQ, ↓reduceIte, false_and, and_false, true_and, and_true, and_self] at hv
    subst hv
    refine ty_iconst (pc := 78) (n := 1) (ks := []) (by decide +kernel) ?_
    refine ty_isub (pc := 79) (ks := []) (by decide +kernel) ?_
    -- at 80: .invokevirtual 249
    rw [x7, show ns + 1 - 1 = ns by omega]
    generalize hA1 : rm_w (rm_w A 73 ns y) 74 ns (-1) = A1
    have aO : ∀ q, q ≠ 73 → q ≠ 74 → A1 q = A q := fun q h1 h2 => by
      rw [← hA1]
      funext j
      simp [rm_w, h1, h2]
    have aS : ∀ j, A1 73 j = if j = ns then y else A 73 j := fun j => by rw [← hA1]; simp [rm_w]
    have aN : ∀ j, A1 74 j = if j = ns then -1 else A 74 j := fun j => by rw [← hA1]; simp [rm_w]
    clear hA1
    have hrv1 : cv_rv bd (A1 64) (A1 65) (A1 74) made bd ch := by
      rw [aO 64 (by decide) (by decide), aO 65 (by decide) (by decide)]
      refine ⟨fun _ _ _ => rfl, fun v v0 w1 hv => ?_⟩
      obtain ⟨l1, l2⟩ := v3.2 v v0 w1 hv
      refine ⟨mo_lnk_eq (fun e he => ?_) l1, l2⟩
      have := (a3.1 v v0 w1 hv).1 e he
      rw [aN, if_neg (by omega)]
      rfl
    obtain ⟨g1, g2, g3, g4, g5⟩ := rm_head_r hrv1 a3 (by omega) (v := -1 - u) ⟨ua, ub, uf⟩
    have hmade : made ≤ 13000 := hRh.2.2.2.2.2.2.2.2.1.2
    have eTa : A1 71 = A 71 := aO _ (by decide) (by decide)
    refine ty_callv (pc := 80) (idx := 249) (m := 137) (n := 4) (c := 13) (vs := [_, _, _]) (r := []) (by decide +kernel) rfl rfl (Nat.le_of_ble_eq_true rfl) (by first | rfl | assumption) (by first | exact hS.1 _ _ rfl | assumption) (rm_follow (L := L) (xs := xs) (I := rm_u (rm_u I 29 behind) 34 (ns + 1)) (A := A1) d hS (tl := I 32) (first := ns) (last := ns) rfl ⟨x3.1.1, by omega⟩ ⟨ua, by omega⟩ ⟨by omega, by omega⟩ (fun z => ⟨g5 z, by omega⟩) ⟨by omega, by omega⟩ (by rw [eTa]; exact x3.2)) ?_
    rintro _ S2 ⟨rfl, A2, tl', rfl, f1, f2, f3, f4, f5, f6⟩
    refine ty_KV ?_
    obtain ⟨h1, h2, h3⟩ := f3 a4
    have hrv2 : cv_rv bd (A2 64) (A2 65) (A2 74) made bd (mo_upc ch (-1 - u) (ch (-1 - u) ++ [ns])) := by
      have := cv_rv_sleep hrv1 a3 ⟨ua, ub, uf⟩ (by rw [aN, if_pos rfl]) a4
      rw [h1, h2, h3]
      by_cases e : ch (-1 - u) = []
      · rw [if_pos (g4.mpr e), if_pos (g4.mpr e)] at this
        rw [if_pos (g3.mpr e), if_pos (g3.mpr e)]
        exact this
      · rw [if_neg (fun q => e (g4.mp q)), if_neg (fun q => e (g4.mp q))] at this
        rw [if_neg (fun q => e (g3.mp q)), if_neg (fun q => e (g3.mp q))]
        exact this
    have bO : ∀ q, q ≠ 64 → q ≠ 65 → q ≠ 74 → q ≠ 71 → q ≠ 72 → q ≠ 73 → A2 q = A q := fun q k1 k2 k3 k4 k5 k6 => (f4 q k1 k2 k3 k4 k5).trans (aO q k6 k3)
    have bS : ∀ j, A2 73 j = if j = ns then y else A 73 j := fun j => by rw [f4 _ (by decide) (by decide) (by decide) (by decide) (by decide)]; exact aS j
    subst hR
    refine ty_iconst (pc := 83) (n := 1) (ks := []) (by decide +kernel) ?_
    -- at 84: .ireturn
    refine ty_ret_i (pc := 84) (ks := []) (ty := .boolean) (by decide +kernel) rfl (ty_fit_z (by omega)) ?_
    refine ⟨1, rfl, rfl, _, A2, rfl, ⟨⟨⟨rfl, rfl, rfl, rfl⟩, bO _ (by decide) (by decide) (by decide) (by decide) (by decide) (by decide), bO _ (by decide) (by decide) (by decide) (by decide) (by decide) (by decide), bO _ (by decide) (by decide) (by decide) (by decide) (by decide) (by decide), bO _ (by decide) (by decide) (by decide) (by decide) (by decide) (by decide)⟩, hE⟩, .inr (.inr (.inr ⟨rfl, ta, rl, nc, ng, na, ⟨x1, x2, ⟨⟨show 0 ≤ tl' by omega, show tl' ≤ 4 * st by omega⟩, f6⟩, x4, x5, x6, rfl, x8, x9, x10, ⟨?_, ?_, hrv2, ?_, ?_⟩, ?_⟩, ?_⟩))⟩
    · exact fun c c0 c1 => rm_cell_e (v1 c c0 c1) (bO _ (by decide) (by decide) (by decide) (by decide) (by decide) (by decide)) (bO _ (by decide) (by decide) (by decide) (by decide) (by decide) (by decide)) (bO _ (by decide) (by decide) (by decide) (by decide) (by decide) (by decide))
    · intro v w0 w1
      show rm_b ta nc (A2 63 v) (bd v)
      rw [bO _ (by decide) (by decide) (by decide) (by decide) (by decide) (by decide)]
      exact v2 v w0 w1
    · intro e e0 e1
      have e1 : e < ns + 1 := e1
      show 0 ≤ A2 73 e ∧ rm_t P.1 ta nc (A2 73 e) (mo_up sl ns r e)
      rw [bS]
      unfold mo_up
      by_cases q : e = ns
      · rw [if_pos q, if_pos q]
        exact ⟨hy0, hy⟩
      · rw [if_neg q, if_neg q]
        exact v4 e e0 (by omega)
    · show rx_A P.1 ta nc A2 (A2 77) al ar rl na an aw
      exact rx_A_k v5 (Int.le_refl _) (fun _ _ _ => rfl) (fun k _ _ => by rw [bO _ (by decide) (by decide) (by decide) (by decide) (by decide) (by decide), bO _ (by decide) (by decide) (by decide) (by decide) (by decide) (by decide)]; exact ⟨rfl, rfl⟩) (fun k _ _ => by rw [bO _ (by decide) (by decide) (by decide) (by decide) (by decide) (by decide)]; rfl) (fun _ _ _ => ⟨rfl, rfl⟩) (fun _ _ _ => rfl)
    · show rx_C P.1 (mo_up sl ns r) al ar rl ta A2 tl' st nc ng na tl' cs
      refine rx_C_k hw (Int.le_refl st) f1.1 cs made ns an nc ng na (I 32) _ _ _ _ b4 x12 ⟨fun c _ _ => ⟨rfl, by rw [bO _ (by decide) (by decide) (by decide) (by decide) (by decide) (by decide)], by rw [bO _ (by decide) (by decide) (by decide) (by decide) (by decide) (by decide)]⟩, fun j _ _ => by rw [bO _ (by decide) (by decide) (by decide) (by decide) (by decide) (by decide)], fun g _ _ => ?_, fun e _ e1 => by rw [bS, if_neg (by omega)], fun k _ _ => ?_, fun k _ _ => ?_, fun to t0 t1 rw' j hin => ?_⟩ (fun e _ e1 => if_neg (by omega)) (fun _ _ _ => ⟨rfl, rfl⟩) (fun _ _ _ => rfl) (Int.le_refl _) (Int.le_refl _) (Int.le_refl _) f1.1 (Int.le_refl _)
      · rw [bO _ (by decide) (by decide) (by decide) (by decide) (by decide) (by decide), bO _ (by decide) (by decide) (by decide) (by decide) (by decide) (by decide), bO _ (by decide) (by decide) (by decide) (by decide) (by decide) (by decide), bO _ (by decide) (by decide) (by decide) (by decide) (by decide) (by decide), bO _ (by decide) (by decide) (by decide) (by decide) (by decide) (by decide)]
        exact ⟨rfl, rfl, rfl, rfl, rfl⟩
      · rw [bO _ (by decide) (by decide) (by decide) (by decide) (by decide) (by decide), bO _ (by decide) (by decide) (by decide) (by decide) (by decide) (by decide)]
        exact ⟨rfl, rfl⟩
      · have e := fun q k1 k2 k3 k4 k5 k6 => bO q k1 k2 k3 k4 k5 k6
        rw [bO _ (by decide) (by decide) (by decide) (by decide) (by decide) (by decide), bO _ (by decide) (by decide) (by decide) (by decide) (by decide) (by decide), bO _ (by decide) (by decide) (by decide) (by decide) (by decide) (by decide), bO _ (by decide) (by decide) (by decide) (by decide) (by decide) (by decide), bO _ (by decide) (by decide) (by decide) (by decide) (by decide) (by decide), bO _ (by decide) (by decide) (by decide) (by decide) (by decide) (by decide), bO _ (by decide) (by decide) (by decide) (by decide) (by decide) (by decide), bO _ (by decide) (by decide) (by decide) (by decide) (by decide) (by decide), bO _ (by decide) (by decide) (by decide) (by decide) (by decide) (by decide)]
        exact ⟨rfl, rfl, rfl, rfl, rfl, rfl, rfl, rfl, rfl⟩
      · rw [f5.2.2 to t0 t1, eTa, aO 72 (by decide) (by decide)]
        refine ru_pt _ _ _ ?_
        rcases hin.2 with ⟨w, w2⟩ | ⟨rfl, w2⟩ | ⟨rfl, w2⟩
        · rcases (show rw' = 0 ∨ rw' = 1 ∨ rw' = 2 by omega) with rfl | rfl | rfl
          · show A1 63 j = A 63 j
            rw [aO _ (by decide) (by decide)]
          · show A1 64 j = A 64 j
            rw [aO _ (by decide) (by decide)]
          · show A1 65 j = A 65 j
            rw [aO _ (by decide) (by decide)]
        · show A1 74 j = A 74 j
          rw [aN, if_neg (by omega)]
        · show A1 77 j = A 77 j
          rw [aO _ (by decide) (by decide)]
    · show rm_td P.1 ta nc A2 ng behind todo
      exact rm_td_keep (Int.le_refl _) (Int.le_refl _) (fun _ _ _ => rfl) (fun g _ _ => by
        rw [bO _ (by decide) (by decide) (by decide) (by decide) (by decide) (by decide), bO _ (by decide) (by decide) (by decide) (by decide) (by decide) (by decide), bO _ (by decide) (by decide) (by decide) (by decide) (by decide) (by decide), bO _ (by decide) (by decide) (by decide) (by decide) (by decide) (by decide), bO _ (by decide) (by decide) (by decide) (by decide) (by decide) (by decide)]
        exact ⟨rfl, rfl, rfl, rfl, rfl⟩) _ _ htd
  · rw [if_neg (by omega)] at hR
    refine ty_if_lt (pc := 14) (off := 19) (t := 33) (ks := []) (by decide +kernel) (by omega) (fun hc => ?_) (fun hc => ?_)
    · omega
    clear hc
    refine ty_aload_n (pc := 17) (i := 0) (ks := []) (by decide +kernel) rfl ?_
    refine ty_aload_n (pc := 18) (i := 0) (ks := []) (by decide +kernel) rfl ?_
    refine ty_iconst (pc := 19) (n := 1) (ks := []) (by decide +kernel) ?_
    refine ty_iload_n (pc := 20) (i := 2) (ks := []) (by decide +kernel) rfl ?_
    refine ty_iconst (pc := 21) (n := 0) (ks := []) (by decide +kernel) ?_
    refine ty_iconst (pc := 22) (n := 0) (ks := []) (by decide +kernel) ?_
    refine ty_iload_n (pc := 23) (i := 3) (ks := []) (by decide +kernel) rfl ?_
    -- at 24: .invokevirtual 212
    refine ty_callv (pc := 24) (idx := 212) (m := 120) (n := 6) (c := 13) (vs := [_, _, _, _, _]) (r := [_]) (by decide +kernel) rfl rfl (Nat.le_of_ble_eq_true rfl) (by first | rfl | assumption) (by first | exact hS.1 _ _ rfl | assumption) ((rm_goal (L := L) (xs := xs) (I := rm_u I 29 behind) (A := A) d hS (k := 1) (x := y) (y := 0) (b := 0) (n := behind) (g := ng) x6.1 ⟨x6.2.1, by omega⟩).deeper (by omega)) ?_
    rintro _ S2 ⟨z, rfl, rfl, rfl⟩
    refine ty_KI ?_
    obtain ⟨k1, k2, k3, k4, k5⟩ := rm_gw_g (A := A) (g := z) (k := 1) (x := y) (y := 0) (b := 0) (n := behind) rfl
    have eo : ∀ q, q ≠ 66 → q ≠ 67 → q ≠ 68 → q ≠ 69 → q ≠ 70 → (rm_w (rm_w (rm_w (rm_w (rm_w A 66 z 1) 67 z y) 68 z 0) 69 z 0) 70 z behind) q = A q := fun q h1 h2 h3 h4 h5 => by
      funext j
      simp [rm_w, h1, h2, h3, h4, h5]
    have en : ∀ q j, j ≠ z → (rm_w (rm_w (rm_w (rm_w (rm_w A 66 z 1) 67 z y) 68 z 0) 69 z 0) 70 z behind) q j = A q j := fun q j h => rm_gw_n h
    refine ty_putI (pc := 27) (idx := 270) (ci := 13) (f := 29) (by decide +kernel) (by first | rfl | assumption) rfl rfl (by first | exact hS.1 _ _ rfl | assumption) ?_
    rw [rm_sI]
    refine ty_goto (pc := 30) (off := 53) (t := 83) (ks := []) (by decide +kernel) ?_
    refine ty_iconst (pc := 83) (n := 1) (ks := []) (by decide +kernel) ?_
    -- at 84: .ireturn
    refine ty_ret_i (pc := 84) (ks := []) (ty := .boolean) (by decide +kernel) rfl (ty_fit_z (by omega)) ?_
    subst hR
    generalize rm_w (rm_w (rm_w (rm_w (rm_w A 66 z 1) 67 z y) 68 z 0) 69 z 0) 70 z behind = A2 at k1 k2 k3 k4 k5 eo en
    have hrr : rr A2 = rr A := rr_e (eo _ (by decide) (by decide) (by decide) (by decide) (by decide)) (eo _ (by decide) (by decide) (by decide) (by decide) (by decide)) (eo _ (by decide) (by decide) (by decide) (by decide) (by decide)) (eo _ (by decide) (by decide) (by decide) (by decide) (by decide)) (eo _ (by decide) (by decide) (by decide) (by decide) (by decide))
    have ej := fun q h1 h2 h3 h4 h5 (j : Int) => congrFun (eo q h1 h2 h3 h4 h5) j
    refine ⟨1, rfl, rfl, _, A2, rfl, ⟨⟨⟨rfl, rfl, rfl, rfl⟩, eo _ (by decide) (by decide) (by decide) (by decide) (by decide), eo _ (by decide) (by decide) (by decide) (by decide) (by decide), eo _ (by decide) (by decide) (by decide) (by decide) (by decide), eo _ (by decide) (by decide) (by decide) (by decide) (by decide)⟩, hE⟩, .inr (.inr (.inr ⟨rfl, ta, rl, nc, z + 1, na, ⟨x1, x2, ⟨x3.1, by rw [eo _ (by decide) (by decide) (by decide) (by decide) (by decide)]; exact x3.2⟩, x4, x5, ⟨rfl, by omega, by simp only; omega⟩, x7, x8, x9, x10, ?_, ?_⟩, ?_⟩))⟩
    · show rx_V P.1 sl al ar rl ta A2 (rr A2) nc na (made, bd, ch, ns, dn, an, aw)
      rw [hrr]
      exact rx_V_k hw (V := (made, bd, ch, ns, dn, an, aw)) ⟨v1, v2, v3, v4, v5⟩ a3 x5.2.1 (Int.le_refl _) (fun c _ _ => ⟨rfl, ej _ (by decide) (by decide) (by decide) (by decide) (by decide) _, ej _ (by decide) (by decide) (by decide) (by decide) (by decide) _⟩) (fun j _ _ => ej _ (by decide) (by decide) (by decide) (by decide) (by decide) _) (fun c c0 c1 => by omega) (fun e _ _ => ⟨ej _ (by decide) (by decide) (by decide) (by decide) (by decide) _, rfl⟩) (fun k _ _ => ⟨⟨ej _ (by decide) (by decide) (by decide) (by decide) (by decide) _, ej _ (by decide) (by decide) (by decide) (by decide) (by decide) _⟩, rfl⟩) (fun _ _ _ => ⟨rfl, rfl⟩) (fun _ _ _ => rfl)
    · show rx_C P.1 sl al ar rl ta A2 (I 32) st nc (z + 1) na (I 32) cs
      exact rx_C_k hw (Int.le_refl st) (Int.le_refl _) cs made ns an nc z na (I 32) _ _ _ _ b4 x12 ⟨fun c _ _ => ⟨rfl, ej _ (by decide) (by decide) (by decide) (by decide) (by decide) _, ej _ (by decide) (by decide) (by decide) (by decide) (by decide) _⟩, fun j _ _ => ej _ (by decide) (by decide) (by decide) (by decide) (by decide) _, fun g _ g1 => ⟨en _ _ (by omega), en _ _ (by omega), en _ _ (by omega), en _ _ (by omega), en _ _ (by omega)⟩, fun e _ _ => ej _ (by decide) (by decide) (by decide) (by decide) (by decide) _, fun k _ _ => ⟨ej _ (by decide) (by decide) (by decide) (by decide) (by decide) _, ej _ (by decide) (by decide) (by decide) (by decide) (by decide) _⟩, fun k _ _ => ⟨ej _ (by decide) (by decide) (by decide) (by decide) (by decide) _, ej _ (by decide) (by decide) (by decide) (by decide) (by decide) _, ej _ (by decide) (by decide) (by decide) (by decide) (by decide) _, ej _ (by decide) (by decide) (by decide) (by decide) (by decide) _, ej _ (by decide) (by decide) (by decide) (by decide) (by decide) _, ej _ (by decide) (by decide) (by decide) (by decide) (by decide) _, ej _ (by decide) (by decide) (by decide) (by decide) (by decide) _, ej _ (by decide) (by decide) (by decide) (by decide) (by decide) _, ej _ (by decide) (by decide) (by decide) (by decide) (by decide) _⟩, fun to t0 t1 r' j _ => by rw [hrr, eo 71 (by decide) (by decide) (by decide) (by decide) (by decide), eo 72 (by decide) (by decide) (by decide) (by decide) (by decide)]⟩ (fun _ _ _ => rfl) (fun _ _ _ => ⟨rfl, rfl⟩) (fun _ _ _ => rfl) (Int.le_refl _) (by omega) (Int.le_refl _) (Int.le_refl _) (Int.le_refl _)
    · show rm_td P.1 ta nc A2 (z + 1) z ((40, r, r, 0) :: todo)
      refine ⟨x6.2.1, by omega, .inr (.inl ⟨rfl, k1, by rw [k2]; exact hy0, by rw [k2]; exact hy⟩), ?_⟩
      rw [k5]
      exact rm_td_keep (Int.le_refl _) (by omega) (fun _ _ _ => rfl) (fun g _ g1 => ⟨en _ _ (by omega), en _ _ (by omega), en _ _ (by omega), en _ _ (by omega), en _ _ (by omega)⟩) _ _ htd
end RXL
