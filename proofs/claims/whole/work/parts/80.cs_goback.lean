/-! The class goes back. -/
section CGB
variable {L : Nat} {xs : Nat → Int32} {S : ty_S}
theorem cs_goBack (d : Nat) {P : mo_P} (hW : mo_PW P) {K : Nat × Nat} {th : Nat} {st came : Int} {sl al ar : Int → Int} {V0 : mo_V} {made : Int} {bd : Int → Int} {ch : Int → List Int} {ns : Int} {dn : List Int} {an : Int} {aw : Int → Bool} {td todo : List mo_Go} {cs : List mo_Ch} {ans : Int} {wk : List Int} {fl : Bool} {t i : Int}
    (h : cs_X S P K th (st, came, sl, al, ar, V0, td, (t, i, todo, (made, bd, ch, ns, dn, an, aw)) :: cs, ans) [] wk fl) (hi : 0 ≤ i ∧ i < P.2.1) (ht : mo_ok P.1 made t) (hfit : mo_fits P t i = true) (hmd : 0 ≤ made ∧ made ≤ 24000) :
    ty_C L xs (d + 4) 81 [.inr (.inr (some (17, 0))), .inr (.inr (some (52, cs.length)))] S (ty_oV fun S' => cs_X S' P K th (mo_bk P (st, came, sl, al, ar, V0, td, (t, i, todo, (made, bd, ch, ns, dn, an, aw)) :: cs, ans)).2.1 (mo_bk P (st, came, sl, al, ar, V0, td, (t, i, todo, (made, bd, ch, ns, dn, an, aw)) :: cs, ans)).2.2.1 wk fl ∧ cs_tk S' P (mo_bk P (st, came, sl, al, ar, V0, td, (t, i, todo, (made, bd, ch, ns, dn, an, aw)) :: cs, ans)).2.2.2 ∧ cs_F S S' ∧ S'.1 (17, 0) 8 + 524 ≤ 24 + 524 * st) := by
  obtain ⟨B, F, E, n, D1, n1, c1, D2, n2, c2, u, W, hR⟩ := h
  obtain ⟨made0, bd0, ch0, ns0, dn0, an0, aw0⟩ := V0
  have hR0 := hR
  obtain ⟨kb, kg, ks, uc, z1, z2, ⟨y1, y2, y3, y4, y5, y6, y7, y8, y9⟩, hback⟩ := cs_R_back hR
  obtain ⟨h1, h2, h3, h4, h5, h6, h7, h8, h9, h10, h11⟩ := hR
  have hS := h1.1
  have hV := h1.2.1
  have r5 := h1.2.2.2.2.1
  have r10 := h1.2.2.2.2.2.2.2.2.2.1
  have r11 := h1.2.2.2.2.2.2.2.2.2.2.1
  have hw2 := hW.2.1
  have hk2 : cs.length < n2 := by have := h7.2.1; simp only [List.length_cons] at this; omega
  generalize hk : cs.length = k at y1 y2 y3 y4 y5 y6 y7 y8 y9 hback hk2 ⊢
  have hp : ((52, k) : ai_A).2 < S.2.2.2.2.2.2.1 ((52, k) : ai_A).1 := by
    show k < S.2.2.2.2.2.2.1 52
    rw [h4.2.2.2.1]
    exact hk2
  have hsk : ty_sk ((52, k) : ai_A).1 = (1, 12) := by
    show ty_sk 52 = (1, 12)
    decide +kernel
  have hne : (¬ ((13, 0) : ai_A) = (52, k)) ∧ (¬ ((39, 0) : ai_A) = (52, k)) ∧ (¬ ((17, 0) : ai_A) = (52, k)) ∧ (¬ ((52, k) : ai_A) = (17, 0)) ∧ (¬ ((52, k) : ai_A) = (13, 0)) ∧ ¬ ((52, k) : ai_A) = (39, 0) := by simp
  refine ty_enter (ml := 4) (ls := [_, _, _, _]) rfl rfl (Nat.le_of_ble_eq_true rfl) ?_
  refine ty_aload_n (pc := 0) (i := 0) (ks := []) (by decide +kernel) rfl ?_
  refine ty_aload_n (pc := 1) (i := 1) (ks := []) (by decide +kernel) rfl ?_
  first | refine ty_getS (pc := 2) (idx := 236) (ci := 12) (f := 2) (by decide +kernel) (by first | rfl | assumption) rfl (by first | exact hS.1 _ _ rfl | assumption) (by assumption) ?_ | (refine ty_getR (pc := 2) (idx := 236) (ci := 12) (f := 2) (by decide +kernel) (by first | rfl | assumption) rfl (by first | exact hS.1 _ _ rfl | assumption) (fun v hv => ?_); (subst hv))
  refine ty_putR (pc := 5) (idx := 86) (ci := 5) (f := 9) (by decide +kernel) (by first | rfl | assumption) rfl rfl (by first | exact hS.1 _ _ rfl | assumption) ?_
  refine ty_aload_n (pc := 8) (i := 0) (ks := []) (by decide +kernel) rfl ?_
  refine ty_aload_n (pc := 9) (i := 1) (ks := []) (by decide +kernel) rfl ?_
  refine ty_getI (pc := 10) (idx := 237) (ci := 12) (f := 3) (by decide +kernel) (by first | rfl | assumption) rfl (by first | exact hS.1 _ _ rfl | assumption) (fun v hv => ?_)
  first | simp (decide := true) only [ty_sI, ty_sR, ty_sA, ty_sQ, ty_mA, ty_mQ, ↓reduceIte, false_and, and_false, true_and, and_true, and_self, hne] at hv | simp (decide := true) only [ty_sI, ty_sR, ty_sA, ty_sQ, ty_mA, ty_mQ, ↓reduceIte, false_and, and_false, true_and, and_true, and_self] at hv | skip
  subst hv
  refine ty_putI (pc := 13) (idx := 22) (ci := 5) (f := 8) (by decide +kernel) (by first | rfl | assumption) rfl rfl (by first | exact hS.1 _ _ rfl | assumption) ?_
  -- at 16: .aload_n 0
  rw [y3]
  generalize hTa : ty_sI (ty_sR S (17, 0) 9 (S.2.1 (52, k) 2)) (17, 0) 8 (uc : Int) = Ta
  have ta3 : Ta.2.2 = S.2.2 := by rw [← hTa]; rfl
  have taI : ∀ b j, Ta.1 b j = if b = (17, 0) ∧ j = 8 then (uc : Int) else S.1 b j := fun b j => by rw [← hTa]; rfl
  have taR : ∀ b j, Ta.2.1 b j = if b = (17, 0) ∧ j = 9 then S.2.1 (52, k) 2 else S.2.1 b j := fun b j => by rw [← hTa]; rfl
  have hSa : ty_st Ta := by rw [← hTa]; exact ty_st.sI (ty_st.sR (by decide +kernel) hS)
  have taN : ∀ b j, b ≠ (17, 0) → Ta.1 b j = S.1 b j := fun b j hb => by rw [taI, if_neg (fun w => hb w.1)]
  have taM : ∀ b j, b ≠ (17, 0) → Ta.2.1 b j = S.2.1 b j := fun b j hb => by rw [taR, if_neg (fun w => hb w.1)]
  have taC : ∀ j, Ta.1 (52, k) j = S.1 (52, k) j := fun j => taN _ _ hne.2.2.2.1
  have hVa : cv_sh Ta B F E n := by
    unfold cv_sh
    rw [ta3, taM _ _ (by decide), taM _ _ (by decide), taM _ _ (by decide)]
    exact hV
  clear hTa
  have hS0 := hS
  have hS := hSa
  have hp0 := hp
  have hp : ((52, k) : ai_A).2 < Ta.2.2.2.2.2.2.1 ((52, k) : ai_A).1 := by rw [ta3]; exact hp0
  refine ty_aload_n (pc := 16) (i := 0) (ks := []) (by decide +kernel) rfl ?_
  refine ty_getS (b := (13, 0)) (pc := 17) (idx := 52) (ci := 5) (f := 1) (by decide +kernel) (by first | rfl | assumption) rfl (by first | exact hS.1 _ _ rfl | assumption) (by first | exact hS.2.2 _ _ _ _ rfl | assumption) ?_
  refine ty_aload_n (pc := 20) (i := 1) (ks := []) (by decide +kernel) rfl ?_
  refine ty_getI (pc := 21) (idx := 240) (ci := 12) (f := 5) (by decide +kernel) (by first | rfl | assumption) rfl (by first | exact hS.1 _ _ rfl | assumption) (fun v hv => ?_)
  subst hv
  -- at 24: .invokevirtual 255
  rw [taC, y5]
  refine ty_callv (pc := 24) (idx := 255) (m := 82) (n := 2) (c := 2) (vs := [_]) (r := []) (by decide +kernel) rfl rfl (Nat.le_of_ble_eq_true rfl) (by first | rfl | assumption) (by first | exact hS.1 _ _ rfl | assumption) (cv_free _ hSa hVa (taN _ _ (by decide)) ⟨z1.1, z1.2.1, by omega⟩ (fun i i0 i1 => by rw [ta3]; exact r10.2 i (by omega) i1)) ?_
  rintro _ Tb ⟨rfl, htb⟩
  refine ty_KV ?_
  have tbI : ∀ b j, Tb.1 b j = if b = (13, 0) ∧ j = 7 then kb else Ta.1 b j := fun b j => by rw [htb]; rfl
  have tb2 : Tb.2.1 = Ta.2.1 := by rw [htb]; rfl
  have tb3 : Tb.2.2.2 = Ta.2.2.2 := by rw [htb]; rfl
  have tbB : Tb.2.2.1 B = cv_fr (S.2.2.1 B) (S.2.2.1 (26, 0)) kb (S.1 (13, 0) 7 - kb).toNat := by
    rw [htb, ← ta3]
    exact ty_mA_at
  have tbA : ∀ b, b ≠ B → Tb.2.2.1 b = S.2.2.1 b := fun b hb => by
    rw [htb, ← ta3]
    exact ty_mA_ne hb
  have hSb : ty_st Tb := by rw [htb]; exact hSa
  clear htb
  have tbC : ∀ j, Tb.1 (52, k) j = S.1 (52, k) j := fun j => by rw [tbI, if_neg (fun w => hne.2.2.2.2.1 w.1), taC]
  have tbN : ∀ b j, b ≠ (13, 0) → Tb.1 b j = Ta.1 b j := fun b j hb => by rw [tbI, if_neg (fun w => hb w.1)]
  have tbV : ∀ j, j ≠ 7 → Tb.1 (13, 0) j = S.1 (13, 0) j := fun j hj => by rw [tbI, if_neg (fun w => hj w.2), taN _ _ (by decide)]
  have hVb : cv_sh Tb B F E n := by
    unfold cv_sh
    rw [tb3, tb2]
    exact hVa
  have hS := hSb
  have hp : ((52, k) : ai_A).2 < Tb.2.2.2.2.2.2.1 ((52, k) : ai_A).1 := by rw [tb3, ta3]; exact hp0
  have n26 := cv_ne hV (s := 26) (i := 0) (by decide)
  have n28 := cv_ne hV (s := 28) (i := 0) (by decide)
  have n29 := cv_ne hV (s := 29) (i := 0) (by decide)
  have n30 := cv_ne hV (s := 30) (i := 0) (by decide)
  have nw := cv_ne hV (s := 45) (i := 0) (by decide)
  have nst := cv_ne hV (s := 46) (i := 0) (by decide)
  have hBFE := hV.2.2.2.2.1
  refine ty_aload_n (pc := 27) (i := 0) (ks := []) (by decide +kernel) rfl ?_
  refine ty_getS (b := (13, 0)) (pc := 28) (idx := 52) (ci := 5) (f := 1) (by decide +kernel) (by first | rfl | assumption) rfl (by first | exact hS.1 _ _ rfl | assumption) (by first | exact hS.2.2 _ _ _ _ rfl | assumption) ?_
  refine ty_aload_n (pc := 31) (i := 1) (ks := []) (by decide +kernel) rfl ?_
  refine ty_getI (pc := 32) (idx := 244) (ci := 12) (f := 6) (by decide +kernel) (by first | rfl | assumption) rfl (by first | exact hS.1 _ _ rfl | assumption) (fun v hv => ?_)
  subst hv
  refine ty_aload_n (pc := 35) (i := 1) (ks := []) (by decide +kernel) rfl ?_
  refine ty_getI (pc := 36) (idx := 248) (ci := 12) (f := 7) (by decide +kernel) (by first | rfl | assumption) rfl (by first | exact hS.1 _ _ rfl | assumption) (fun v hv => ?_)
  subst hv
  -- at 39: .invokevirtual 259
  rw [tbC, tbC, y6, y7]
  refine ty_callv (pc := 39) (idx := 259) (m := 83) (n := 3) (c := 2) (vs := [_, _]) (r := []) (by decide +kernel) rfl rfl (Nat.le_of_ble_eq_true rfl) (by first | rfl | assumption) (by first | exact hS.1 _ _ rfl | assumption) (cv_unlink _ hSb hVb (tbV _ (by decide)) ⟨z1.2.2.1, z1.2.2.2.1, by omega⟩ (fun i i0 i1 => by rw [tbA _ n29.2.1, tbA _ n30.2.1]; exact r11.2 i (by omega) i1)) ?_
  rintro _ Tc ⟨rfl, htc⟩
  refine ty_KV ?_
  have tcI : ∀ b j, Tc.1 b j = if b = (13, 0) ∧ j = 10 then ns else if b = (13, 0) ∧ j = 13 then kg else Tb.1 b j := fun b j => by rw [htc]; rfl
  have tc2 : Tc.2.1 = Tb.2.1 := by rw [htc]; rfl
  have tc3 : Tc.2.2.2 = Tb.2.2.2 := by rw [htc]; rfl
  rw [tbA _ (Ne.symm hBFE.1), tbA _ (Ne.symm hBFE.2.1), tbA _ n28.2.1, tbA _ n29.2.1, tbA _ n30.2.1] at htc
  generalize hun : cv_un (S.2.2.1 F) (S.2.2.1 E) (S.2.2.1 (28, 0)) (S.2.2.1 (29, 0)) (S.2.2.1 (30, 0)) (S.1 (13, 0) 13) (S.1 (13, 0) 13 - kg).toNat = un at htc
  have tcA : ∀ b, Tc.2.2.1 b = if b = E then un.2.1 else if b = F then un.1 else if b = (28, 0) then un.2.2 else Tb.2.2.1 b := fun b => by rw [htc]; rfl
  have hSc : ty_st Tc := by rw [htc]; exact hSb
  clear htc
  have tcC : ∀ j, Tc.1 (52, k) j = S.1 (52, k) j := fun j => by rw [tcI, if_neg (fun w => hne.2.2.2.2.1 w.1), if_neg (fun w => hne.2.2.2.2.1 w.1), tbC]
  have hS := hSc
  have hp : ((52, k) : ai_A).2 < Tc.2.2.2.2.2.2.1 ((52, k) : ai_A).1 := by rw [tc3, tb3, ta3]; exact hp0
  refine ty_aload_n (pc := 42) (i := 0) (ks := []) (by decide +kernel) rfl ?_
  refine ty_getS (b := (13, 0)) (pc := 43) (idx := 52) (ci := 5) (f := 1) (by decide +kernel) (by first | rfl | assumption) rfl (by first | exact hS.1 _ _ rfl | assumption) (by first | exact hS.2.2 _ _ _ _ rfl | assumption) ?_
  refine ty_aload_n (pc := 46) (i := 1) (ks := []) (by decide +kernel) rfl ?_
  refine ty_getI (pc := 47) (idx := 239) (ci := 12) (f := 4) (by decide +kernel) (by first | rfl | assumption) rfl (by first | exact hS.1 _ _ rfl | assumption) (fun v hv => ?_)
  subst hv
  refine ty_putI (pc := 50) (idx := 238) (ci := 2) (f := 4) (by decide +kernel) (by first | rfl | assumption) rfl rfl (by first | exact hS.1 _ _ rfl | assumption) ?_
  -- at 53: .aload_n 0
  rw [tcC, y4]
  generalize hTd : ty_sI Tc (13, 0) 4 made = Td
  have tdI : ∀ b j, Td.1 b j = if b = (13, 0) ∧ j = 4 then made else Tc.1 b j := fun b j => by rw [← hTd]; rfl
  have td2 : Td.2 = Tc.2 := by rw [← hTd]; rfl
  have hSd : ty_st Td := by rw [← hTd]; exact hSc
  clear hTd
  have tdC : ∀ j, Td.1 (52, k) j = S.1 (52, k) j := fun j => by rw [tdI, if_neg (fun w => hne.2.2.2.2.1 w.1), tcC]
  have tdP : ∀ j, Td.1 (39, 0) j = S.1 (39, 0) j := fun j => by rw [tdI, if_neg (by simp), tcI, if_neg (by simp), if_neg (by simp), tbN _ _ (by decide), taN _ _ (by decide)]
  have tdA : ∀ s i : Nat, s ≠ 23 → s ≠ 24 → s ≠ 25 → s ≠ 48 → s ≠ 28 → Td.2.2.1 (s, i) = S.2.2.1 (s, i) := fun s i q1 q2 q3 q4 q5 => by
    obtain ⟨-, m1, m2, m3⟩ := cv_ne hV (s := s) (i := i) ⟨q1, q2, q3, q4⟩
    rw [td2, tcA, if_neg m3, if_neg m2, if_neg (fun z => q5 (congrArg Prod.fst z)), tbA _ m1]
  have hS := hSd
  have hp : ((52, k) : ai_A).2 < Td.2.2.2.2.2.2.1 ((52, k) : ai_A).1 := by rw [td2, tc3, tb3, ta3]; exact hp0
  refine ty_aload_n (pc := 53) (i := 0) (ks := []) (by decide +kernel) rfl ?_
  refine ty_getS (b := (39, 0)) (pc := 54) (idx := 69) (ci := 5) (f := 4) (by decide +kernel) (by first | rfl | assumption) rfl (by first | exact hS.1 _ _ rfl | assumption) (by first | exact hS.2.2 _ _ _ _ rfl | assumption) ?_
  refine ty_aload_n (pc := 57) (i := 1) (ks := []) (by decide +kernel) rfl ?_
  refine ty_getI (pc := 58) (idx := 249) (ci := 12) (f := 8) (by decide +kernel) (by first | rfl | assumption) rfl (by first | exact hS.1 _ _ rfl | assumption) (fun v hv => ?_)
  subst hv
  refine ty_aload_n (pc := 61) (i := 1) (ks := []) (by decide +kernel) rfl ?_
  refine ty_getI (pc := 62) (idx := 254) (ci := 12) (f := 9) (by decide +kernel) (by first | rfl | assumption) rfl (by first | exact hS.1 _ _ rfl | assumption) (fun v hv => ?_)
  subst hv
  -- at 65: .invokevirtual 262
  rw [tdC, tdC, y8, y9]
  have hsc := h2.2.2
  refine ty_callv (pc := 65) (idx := 262) (m := 84) (n := 3) (c := 9) (vs := [_, _]) (r := []) (by decide +kernel) rfl rfl (Nat.le_of_ble_eq_true rfl) (by first | rfl | assumption) (by first | exact hS.1 _ _ rfl | assumption) (ca_goBack _ hSd (tdP _) ⟨z1.2.2.2.2.1, z1.2.2.2.2.2, by omega⟩ (fun i i0 i1 => by rw [tdA 46 0 (by decide) (by decide) (by decide) (by decide) (by decide)]; exact hsc.2 i (by omega) i1)) ?_
  rintro _ Te ⟨rfl, hte⟩
  refine ty_KV ?_
  rw [tdA 46 0 (by decide) (by decide) (by decide) (by decide) (by decide), tdA 45 0 (by decide) (by decide) (by decide) (by decide) (by decide)] at hte
  have teI : ∀ b j, Te.1 b j = if b = (39, 0) ∧ j = 5 then an else if b = (39, 0) ∧ j = 7 then ks else Td.1 b j := fun b j => by rw [hte]; rfl
  have te2 : Te.2.1 = Td.2.1 := by rw [hte]; rfl
  have te3 : Te.2.2.2 = Td.2.2.2 := by rw [hte]; rfl
  have teA : ∀ b, Te.2.2.1 b = if b = (45, 0) then ca_sw (S.2.2.1 (45, 0)) (S.2.2.1 (46, 0)) ks (S.1 (39, 0) 7 - ks).toNat else Td.2.2.1 b := fun b => by rw [hte]; rfl
  have hSe : ty_st Te := by rw [hte]; exact hSd
  clear hte
  have teR : ∀ b j, Te.2.1 b j = Ta.2.1 b j := fun b j => by rw [te2, td2, tc2, tb2]
  have te3' : Te.2.2.2 = S.2.2.2 := by rw [te3, td2, tc3, tb3, ta3]
  have teI' : ∀ b j, b ≠ (17, 0) → b ≠ (13, 0) → b ≠ (39, 0) → Te.1 b j = S.1 b j := fun b j q1 q2 q3 => by
    rw [teI, if_neg (fun w => q3 w.1), if_neg (fun w => q3 w.1), tdI, if_neg (fun w => q2 w.1), tcI, if_neg (fun w => q2 w.1), if_neg (fun w => q2 w.1), tbN _ _ q2, taN _ _ q1]
  have teS : ∀ j, Te.1 (17, 0) j = Ta.1 (17, 0) j := fun j => by
    rw [teI, if_neg (by simp), if_neg (by simp), tdI, if_neg (by simp), tcI, if_neg (by simp), if_neg (by simp), tbN _ _ (by decide)]
  have teV : ∀ j, Te.1 (13, 0) j = if j = 4 then made else if j = 10 then ns else if j = 13 then kg else if j = 7 then kb else S.1 (13, 0) j := fun j => by
    rw [teI, if_neg (by simp), if_neg (by simp), tdI, tcI, tbI, taN _ _ (by decide)]
    simp only [true_and]
  have hbk : cs_bk S Te B F E kb kg ks ns made an uc k := by
    refine ⟨te3', fun b j hb => by rw [teR, taM b j hb], fun j hj => by rw [teR, taR, if_neg (fun w => hj w.2)], by rw [teR, taR, if_pos ⟨rfl, rfl⟩], ?_, fun b q1 q2 q3 q4 q5 => ?_, teI', fun j hj => by rw [teS, taI, if_neg (fun w => hj w.2)], by rw [teS, taI, if_pos ⟨rfl, rfl⟩], by rw [teV, if_pos rfl], by rw [teV, if_neg (by decide), if_pos rfl], by rw [teI, if_pos ⟨rfl, rfl⟩], by rw [teV, if_neg (by decide), if_neg (by decide), if_neg (by decide), if_neg (by decide)]⟩
    · have xB : Te.2.2.1 B = cv_fr (S.2.2.1 B) (S.2.2.1 (26, 0)) kb (S.1 (13, 0) 7 - kb).toNat := by
        rw [teA, if_neg nw.1.1, td2, tcA, if_neg hBFE.2.1, if_neg hBFE.1, if_neg n28.1.1, tbB]
      have xF : Te.2.2.1 F = un.1 := by
        rw [teA, if_neg nw.1.2.1, td2, tcA, if_neg hBFE.2.2, if_pos rfl]
      have xE : Te.2.2.1 E = un.2.1 := by
        rw [teA, if_neg nw.1.2.2, td2, tcA, if_pos rfl]
      have xX : Te.2.2.1 (28, 0) = un.2.2 := by
        rw [teA, if_neg (by decide), td2, tcA, if_neg n28.2.2.2, if_neg n28.2.2.1, if_pos rfl]
      have xo : ∀ s : Nat, s ≠ 23 → s ≠ 24 → s ≠ 25 → s ≠ 48 → s ≠ 28 → s ≠ 45 → Te.2.2.1 (s, 0) = S.2.2.1 (s, 0) := fun s q1 q2 q3 q4 q5 q6 => by
        rw [teA, if_neg (fun z => q6 (congrArg Prod.fst z)), tdA s 0 q1 q2 q3 q4 q5]
      unfold cs_arr cs_un
      simp only
      rw [xB, xF, xE, xX, xo 26 (by decide) (by decide) (by decide) (by decide) (by decide) (by decide), xo 29 (by decide) (by decide) (by decide) (by decide) (by decide) (by decide), xo 30 (by decide) (by decide) (by decide) (by decide) (by decide) (by decide), xo 46 (by decide) (by decide) (by decide) (by decide) (by decide) (by decide), teA (45, 0), if_pos rfl, teV, if_neg (by decide), if_neg (by decide), if_neg (by decide), if_pos rfl, teV, if_neg (by decide), if_neg (by decide), if_pos rfl, teI, if_neg (by decide), if_pos ⟨rfl, rfl⟩, hun]
    · rw [teA, if_neg q5, td2, tcA, if_neg q3, if_neg q2, if_neg q4, tbA _ q1]
  have hRe := hback Te hSe hbk
  have hFe : cs_F S Te := by
    refine ⟨fun b a j => ⟨teI' b j (cs_F_fst (cs_F_ne a rfl)) (cs_F_fst (cs_F_ne a rfl)) (cs_F_fst (cs_F_ne a rfl)), hbk.2.1 b j (cs_F_fst (cs_F_ne a rfl))⟩, fun b a => ⟨?_, fun _ => by rw [te3'], by rw [te3']⟩, by rw [te3'], fun s _ => by rw [te3']⟩
    obtain ⟨-, m1, m2, m3⟩ := cv_ne hV (s := b.1) (i := b.2) ⟨cs_F_ne a rfl, cs_F_ne a rfl, cs_F_ne a rfl, cs_F_ne a rfl⟩
    exact hbk.2.2.2.2.2.1 b m1 m2 m3 (cs_F_fst (cs_F_ne a rfl)) (cs_F_fst (cs_F_ne a rfl))
  have teC : ∀ j, Te.1 (52, k) j = S.1 (52, k) j := fun j => teI' _ j hne.2.2.2.1 hne.2.2.2.2.1 hne.2.2.2.2.2
  have hcc : Te.1 (17, 0) 11 = (k : Int) + 1 := by
    have := hRe.2.2.2.2.2.2.1.1
    simp only [List.length_cons, hk] at this
    omega
  have hp : ((52, k) : ai_A).2 < Te.2.2.2.2.2.2.1 ((52, k) : ai_A).1 := by rw [te3']; exact hp0
  clear hback hbk teI te2 te3 teA tdI td2 tdC tdP tdA tcI tc2 tc3 tcA tcC tbI tb2 tb3 tbB tbA tbC tbN tbV taI taR taN taM taC hVa hVb hR0 hSa hSb hSc hSd teR te3' teI' teS teV
  have hS := hSe
  refine ty_aload_n (pc := 68) (i := 0) (ks := []) (by decide +kernel) rfl ?_
  refine ty_getI (pc := 69) (idx := 28) (ci := 5) (f := 11) (by decide +kernel) (by first | rfl | assumption) rfl (by first | exact hS.1 _ _ rfl | assumption) (fun v hv => ?_)
  subst hv
  refine ty_iconst (pc := 72) (n := 1) (ks := []) (by decide +kernel) ?_
  refine ty_isub (pc := 73) (ks := []) (by decide +kernel) ?_
  refine ty_istore_n (pc := 74) (i := 2) (ks := []) (ls' := [_, _, _, _]) (by decide +kernel) rfl ?_
  refine ty_aload_n (pc := 75) (i := 1) (ks := []) (by decide +kernel) rfl ?_
  refine ty_getI (pc := 76) (idx := 233) (ci := 12) (f := 1) (by decide +kernel) (by first | rfl | assumption) rfl (by first | exact hS.1 _ _ rfl | assumption) (fun v hv => ?_)
  subst hv
  refine ty_istore_n (pc := 79) (i := 3) (ks := []) (ls' := [_, _, _, _]) (by decide +kernel) rfl ?_
  refine ty_aload_n (pc := 80) (i := 1) (ks := []) (by decide +kernel) rfl ?_
  refine ty_aload_n (pc := 81) (i := 0) (ks := []) (by decide +kernel) rfl ?_
  refine ty_aload_n (pc := 82) (i := 1) (ks := []) (by decide +kernel) rfl ?_
  refine ty_getI (pc := 83) (idx := 230) (ci := 12) (f := 0) (by decide +kernel) (by first | rfl | assumption) rfl (by first | exact hS.1 _ _ rfl | assumption) (fun v hv => ?_)
  subst hv
  refine ty_iload_n (pc := 86) (i := 3) (ks := []) (by decide +kernel) rfl ?_
  refine ty_iconst (pc := 87) (n := 1) (ks := []) (by decide +kernel) ?_
  refine ty_iadd (pc := 88) (ks := []) (by decide +kernel) ?_
  -- at 89: .invokevirtual 205
  rw [teC, teC, y1, y2, hcc]
  have hCl := cs_findClause (L := L) (xs := xs) (d + 1) hSe hRe.2.2.1 hW ht (by omega) (show 0 ≤ i + 1 ∧ i + 1 ≤ 100 by omega)
  refine ty_callv (pc := 89) (idx := 205) (m := 65) (n := 3) (c := 5) (vs := [_, _]) (r := [_]) (by decide +kernel) rfl rfl (Nat.le_of_ble_eq_true rfl) (by first | rfl | assumption) (by first | exact hS.1 _ _ rfl | assumption) hCl ?_
  rintro _ Tf ⟨z, rfl, rfl, rfl⟩
  refine ty_KI ?_
  refine ty_putI (pc := 92) (idx := 233) (ci := 12) (f := 1) (by decide +kernel) (by first | rfl | assumption) rfl rfl (by first | exact hS.1 _ _ rfl | assumption) ?_
  -- at 95: .aload_n 1
  rw [← hk]
  have hRf := cs_R_clause hRe (z := mo_next P t (i + 1))
  have hFf : cs_F S (ty_sI Tf (52, cs.length) 1 (mo_next P t (i + 1))) := hFe.trans ⟨fun b a j => ⟨if_neg (fun w => cs_F_ne a (k := 52) rfl (by rw [w.1])), rfl⟩, fun b a => ⟨rfl, fun _ => rfl, rfl⟩, rfl, fun _ _ => rfl⟩
  rw [hk] at hRf hFf ⊢
  have hcl : (ty_sI Tf (52, k) 1 (mo_next P t (i + 1))).1 (52, k) 1 = mo_next P t (i + 1) := by simp [ty_sI]
  have hca : (ty_sI Tf (52, k) 1 (mo_next P t (i + 1))).1 (52, k) 0 = t := by
    rw [← y1, ← teC]
    simp [ty_sI]
  have hp1 : ((52, k) : ai_A).2 < (ty_sI Tf (52, k) 1 (mo_next P t (i + 1))).2.2.2.2.2.2.1 ((52, k) : ai_A).1 := hp
  generalize ty_sI Tf (52, k) 1 (mo_next P t (i + 1)) = Tg at hRf hFf hcl hca hp1
  clear hCl hRe hFe teC hcc hp hSe hS
  have hp := hp1
  have hS : ty_st Tg := hRf.1.1
  have hnx := mo_next_spec (P := P) (t := t) (show 0 ≤ i + 1 by omega)
  have hnr : -1 ≤ mo_next P t (i + 1) ∧ mo_next P t (i + 1) ≤ 100 := by rcases hnx with z | z <;> omega
  have eb : mo_bk P (st, came, sl, al, ar, (made0, bd0, ch0, ns0, dn0, an0, aw0), td, (t, i, todo, (made, bd, ch, ns, dn, an, aw)) :: cs, ans) = mo_ta P (st, came, sl, al, ar, (made, bd, ch, ns, dn, an, aw), todo, (if mo_next P t (i + 1) = -1 then cs else (t, mo_next P t (i + 1), todo, (made, bd, ch, ns, dn, an, aw)) :: cs), ans) t i cs.length := rfl
  refine ty_aload_n (pc := 95) (i := 1) (ks := []) (by decide +kernel) rfl ?_
  refine ty_getI (pc := 96) (idx := 233) (ci := 12) (f := 1) (by decide +kernel) (by first | rfl | assumption) rfl (by first | exact hS.1 _ _ rfl | assumption) (fun v hv => ?_)
  subst hv
  refine ty_iconst (pc := 99) (n := (-1)) (ks := []) (by decide +kernel) ?_
  -- at 100: .if_icmp .ne 8
  rw [hcl]
  refine ty_icmp_ne (pc := 100) (off := 8) (t := 108) (ks := []) (by decide +kernel) (by omega) (by omega) (fun hc => ?_) (fun hc => ?_)
  · refine ty_aload_n (pc := 108) (i := 0) (ks := []) (by decide +kernel) rfl ?_
    refine ty_aload_n (pc := 109) (i := 1) (ks := []) (by decide +kernel) rfl ?_
    refine ty_getI (pc := 110) (idx := 230) (ci := 12) (f := 0) (by decide +kernel) (by first | rfl | assumption) rfl (by first | exact hS.1 _ _ rfl | assumption) (fun v hv => ?_)
    subst hv
    refine ty_iload_n (pc := 113) (i := 3) (ks := []) (by decide +kernel) rfl ?_
    refine ty_iload_n (pc := 114) (i := 2) (ks := []) (by decide +kernel) rfl ?_
    -- at 115: .invokevirtual 211
    rw [hca]
    have hX : cs_X Tg P K th (st, came, sl, al, ar, (made, bd, ch, ns, dn, an, aw), todo, (t, mo_next P t (i + 1), todo, (made, bd, ch, ns, dn, an, aw)) :: cs, ans) [] wk fl := ⟨B, F, E, n, D1, n1, c1, D2, n2, c2, uc, uc, hRf⟩
    have := cs_takeClause (L := L) (xs := xs) d hW hX hi ht hfit hmd (bar := (k : Int) + 1 - 1)
    refine ty_callv (pc := 115) (idx := 211) (m := 70) (n := 4) (c := 5) (vs := [_, _, _]) (r := []) (by decide +kernel) rfl rfl (Nat.le_of_ble_eq_true rfl) (by first | rfl | assumption) (by first | exact hS.1 _ _ rfl | assumption) this ?_
    rintro _ Th ⟨rfl, x1, x2, x3, x4⟩
    refine ty_KV ?_
    refine ty_ret_v (pc := 118) (ks := []) (by decide +kernel) rfl ?_
    refine ⟨rfl, ?_⟩
    rw [eb, if_neg hc, hk]
    rw [show (k : Int) + 1 - 1 = k by omega] at x1 x2
    exact ⟨x1, x2, hFf.trans x3, by rw [x4, hRf.2.2.2.2.1.1]; exact z2.2.2.2⟩
  · refine ty_aload_n (pc := 103) (i := 0) (ks := []) (by decide +kernel) rfl ?_
    refine ty_iload_n (pc := 104) (i := 2) (ks := []) (by decide +kernel) rfl ?_
    refine ty_putI (pc := 105) (idx := 28) (ci := 5) (f := 11) (by decide +kernel) (by first | rfl | assumption) rfl rfl (by first | exact hS.1 _ _ rfl | assumption) ?_
    -- at 108: .aload_n 0
    have hRh := cs_R_cut hRf 1 (z := (k : Int) + 1 - 1) (by simp only [List.drop_succ_cons, List.drop_zero, hk]; omega)
    have hFh : cs_F Tg (ty_sI Tg (17, 0) 11 ((k : Int) + 1 - 1)) := cs_F_own rfl (fun b j hb => if_neg (fun w => hb w.1)) (fun _ _ _ => rfl)
    have hca2 : (ty_sI Tg (17, 0) 11 ((k : Int) + 1 - 1)).1 (52, k) 0 = t := by
      exact (ty_sI_ne (fun w => hne.2.2.2.1 w.1)).trans hca
    have hp2 : ((52, k) : ai_A).2 < (ty_sI Tg (17, 0) 11 ((k : Int) + 1 - 1)).2.2.2.2.2.2.1 ((52, k) : ai_A).1 := hp
    generalize ty_sI Tg (17, 0) 11 ((k : Int) + 1 - 1) = Th at hRh hFh hca2 hp2
    have hS : ty_st Th := hRh.1.1
    have hp := hp2
    refine ty_aload_n (pc := 108) (i := 0) (ks := []) (by decide +kernel) rfl ?_
    refine ty_aload_n (pc := 109) (i := 1) (ks := []) (by decide +kernel) rfl ?_
    refine ty_getI (pc := 110) (idx := 230) (ci := 12) (f := 0) (by decide +kernel) (by first | rfl | assumption) rfl (by first | exact hS.1 _ _ rfl | assumption) (fun v hv => ?_)
    subst hv
    refine ty_iload_n (pc := 113) (i := 3) (ks := []) (by decide +kernel) rfl ?_
    refine ty_iload_n (pc := 114) (i := 2) (ks := []) (by decide +kernel) rfl ?_
    -- at 115: .invokevirtual 211
    rw [hca2]
    have hX : cs_X Th P K th (st, came, sl, al, ar, (made, bd, ch, ns, dn, an, aw), todo, cs, ans) [] wk fl := ⟨B, F, E, n, D1, n1, c1, D2, n2, c2, uc, uc, hRh⟩
    have := cs_takeClause (L := L) (xs := xs) d hW hX hi ht hfit hmd (bar := (k : Int) + 1 - 1)
    refine ty_callv (pc := 115) (idx := 211) (m := 70) (n := 4) (c := 5) (vs := [_, _, _]) (r := []) (by decide +kernel) rfl rfl (Nat.le_of_ble_eq_true rfl) (by first | rfl | assumption) (by first | exact hS.1 _ _ rfl | assumption) this ?_
    rintro _ Ti ⟨rfl, x1, x2, x3, x4⟩
    refine ty_KV ?_
    refine ty_ret_v (pc := 118) (ks := []) (by decide +kernel) rfl ?_
    refine ⟨rfl, ?_⟩
    rw [eb, if_pos hc, hk]
    rw [show (k : Int) + 1 - 1 = k by omega] at x1 x2
    exact ⟨x1, x2, (hFf.trans hFh).trans x3, by rw [x4, hRh.2.2.2.2.1.1]; exact z2.2.2.2⟩
end CGB
