/-! On, or back, to the next answer. -/
/-- what seek comes to -/
def cs_s (S : ty_S) (P : mo_P) (K : Nat × Nat) (th : Nat) (r : Int × mo_M) : ai_O → ty_S → Prop := fun o S' => ((r.1 = 0 ∨ r.1 = 1) ∧ o = .inl (some (.inl (ty_J r.1))) ∧ cs_Y S' P K th r.2 ∧ mo_MI P r.2 ∧ cs_F S S') ∨ ((r.1 = 2 ∧ o = .inr 1 ∨ r.1 = 3 ∧ o = .inr 3) ∧ cs_I S' K (th + 1) ∧ cs_F S S')
theorem mo_an_r {P : mo_P} {M : mo_M} (h : mo_MI P M) : 0 ≤ mo_an M ∧ mo_an M ≤ 500 := by
  obtain ⟨b1, b2, b3, b4⟩ := h
  have := b3.2.2.2.2.1
  unfold mo_an
  omega
section CSS
variable {L : Nat} {xs : Nat → Int32} {S : ty_S}
theorem cs_seek (d : Nat) {P : mo_P} (hW : mo_PW P) (hG : mo_PG P) {K : Nat × Nat} {th : Nat} {M : mo_M} (h : cs_Y S P K th M) (hI : mo_MI P M) (on : Bool) {ob : Int} (hob : ob = if on = true then 1 else 0) :
    ty_C L xs (d + 11) 60 [.inr (.inr (some (17, 0))), .inl (ty_J ob)] S (cs_s S P K th (mo_seek P 1000000 on M)) := by
  have loop : ∀ (m : Nat) (S1 : ty_S) (M : mo_M) (on : Bool) (w : Int) (x4 x5 : Option ai_V), m ≤ 1000000 → mo_ph M < m → w = (if on = true then 1 else 0) → cs_Y S1 P K th M → mo_MI P M → cs_F S S1 →
      ty_W L xs (d + 10) 60 4 [some (.inr (.inr (some (17, 0)))), some (.inl (ty_J ob)), some (.inl (ty_J w)), some (.inl (ty_J (1000000 - (m : Int)))), x4, x5] [] S1 (cs_s S P K th (mo_seek P m on M)) := by
    intro m
    induction m with
    | zero =>
      intro S1 M on w x4 x5 hm hph hw hY hI hF
      have := (mo_ph_bound hW.2.1 hI).1
      omega
    | succ m ih =>
      intro S1 M on w x4 x5 hm hph hw hY hI hF
      have hwr : 0 ≤ w ∧ w ≤ 1 := by rw [hw]; split <;> omega
      have hY0 := hY
      obtain ⟨B, F, E, n, D1, n1, c1, D2, n2, c2, u, W, hR⟩ := hY
      have hanr := mo_an_r hI
      have hI0 := hI
      obtain ⟨st, came, sl, al, ar, ⟨made, bd, ch, ns, dn, an, aw⟩, todo, cs, ans⟩ := M
      have hR0 := hR
      obtain ⟨h1, h2, h3, h4, h5, h6, h7, h8, h9, h10, h11⟩ := hR
      have hS : ty_st S1 := h1.1
      have hcc1 : S1.1 (17, 0) 11 = cs.length := (cs_C_I (by decide)).symm.trans h7.1
      have hans1 : S1.1 (17, 0) 12 = ans := (cs_C_I (by decide)).symm.trans h9.2.2
      have h6' : cs_td (cs_C S1) u (S1.2.1 (17, 0) 9) todo := h6
      have hccr : 0 ≤ S1.1 (17, 0) 11 ∧ S1.1 (17, 0) 11 ≤ 500 := by have := h7.2; omega
      -- the round itself
      have body : ¬ (on = true ∧ todo = []) → ¬ (on = false ∧ cs = []) → ty_W L xs (d + 10) 60 46 [some (.inr (.inr (some (17, 0)))), some (.inl (ty_J ob)), some (.inl (ty_J w)), some (.inl (ty_J (1000000 - ((m + 1 : Nat) : Int)))), x4, x5] [] S1 (cs_s S P K th (mo_seek P (m + 1) on (st, came, sl, al, ar, (made, bd, ch, ns, dn, an, aw), todo, cs, ans))) := by
        intro q1 q2
        unfold mo_seek
        simp only
        rw [if_neg q1, if_neg q2]
        refine ty_aload_n (pc := 46) (i := 0) (ks := []) (by decide +kernel) rfl ?_
        refine ty_getS (b := (38, 0)) (pc := 47) (idx := 60) (ci := 5) (f := 3) (by decide +kernel) (by first | rfl | assumption) rfl (by first | exact hS.1 _ _ rfl | assumption) (by first | exact hS.2.2 _ _ _ _ rfl | assumption) ?_
        -- at 50: .invokevirtual 103
        refine ty_callv (pc := 50) (idx := 103) (m := 61) (n := 1) (c := 8) (vs := []) (r := []) (by decide +kernel) rfl rfl (Nat.le_of_ble_eq_true rfl) (by first | rfl | assumption) (by first | exact hS.1 _ _ rfl | assumption) (cp_clear _ hS) ?_
        rintro _ S2 ⟨rfl, hS2⟩
        refine ty_KV ?_
        have hR2 : cs_R S2 P K th (st, came, sl, al, ar, (made, bd, ch, ns, dn, an, aw), todo, cs, ans) [] [] false B F E n D1 n1 c1 D2 n2 c2 u W := by rw [hS2]; exact hR0
        have hF2 : cs_F S1 S2 := by rw [hS2]; exact cs_C_F
        clear hS2
        have hS := hR2.1.1
        refine ty_aload_n (pc := 53) (i := 0) (ks := []) (by decide +kernel) rfl ?_
        refine ty_null (pc := 54) (ks := []) (by decide +kernel) ?_
        refine ty_putR (pc := 55) (idx := 104) (ci := 5) (f := 13) (by decide +kernel) (by first | rfl | assumption) rfl rfl (by first | exact hS.1 _ _ rfl | assumption) ?_
        -- at 58: .aload_n 0
        have hS3 : ty_st (ty_sR S2 (17, 0) 13 none) := ty_st.sR (by decide +kernel) hS
        have hR3 := cs_R_own hR2 hS3 rfl (fun _ _ _ => rfl) (fun b j hb => if_neg hb)
        have htk3 : (ty_sR S2 (17, 0) 13 none).2.1 (17, 0) 13 = none := by simp [ty_sR]
        have hF3 : cs_F S2 (ty_sR S2 (17, 0) 13 none) := cs_F_own rfl (fun _ _ _ => rfl) (fun b j hb => if_neg (fun z => hb z.1))
        generalize ty_sR S2 (17, 0) 13 none = S3 at hS3 hR3 htk3 hF3
        have hS := hS3
        have hX3 : cs_X S3 P K th (st, came, sl, al, ar, (made, bd, ch, ns, dn, an, aw), todo, cs, ans) [] [] false := ⟨_, _, _, _, _, _, _, _, _, _, _, _, hR3⟩
        have han3 := hR3.2.1.1.1
        have hF13 : cs_F S S3 := (hF.trans hF2).trans hF3
        clear hR2 hF2 hF3 hF hS3
        refine ty_aload_n (pc := 58) (i := 0) (ks := []) (by decide +kernel) rfl ?_
        refine ty_getS (b := (39, 0)) (pc := 59) (idx := 69) (ci := 5) (f := 4) (by decide +kernel) (by first | rfl | assumption) rfl (by first | exact hS.1 _ _ rfl | assumption) (by first | exact hS.2.2 _ _ _ _ rfl | assumption) ?_
        refine ty_getI (pc := 62) (idx := 107) (ci := 9) (f := 5) (by decide +kernel) (by first | rfl | assumption) rfl (by first | exact hS.1 _ _ rfl | assumption) (fun v hv => ?_)
        subst hv
        refine ty_istore (pc := 65) (i := 4) (ks := []) (ls' := [_, _, _, _, _, _]) (by decide +kernel) rfl ?_
        refine ty_iload_n (pc := 67) (i := 2) (ks := []) (by decide +kernel) rfl ?_
        -- at 68: .ifCond .eq 15
        rw [han3]
        -- the second half
        have half : ∀ (r : mo_R1) (S4 : ty_S) (x5 : Option ai_V), r.1 = 1 → cs_1 S3 P K th r S4 → mo_1I P r → mo_ph r.2.1 < mo_ph (st, came, sl, al, ar, (made, bd, ch, ns, dn, an, aw), todo, cs, ans) →
            ty_W L xs (d + 10) 60 105 [some (.inr (.inr (some (17, 0)))), some (.inl (ty_J ob)), some (.inl (ty_J 1)), some (.inl (ty_J (1000000 - ((m + 1 : Nat) : Int)))), some (.inl (ty_J an)), x5] [] S4 (cs_s S P K th (match (match r with | (c, M1, ps, tk) => if c = 1 then mo_fin P M1 ps (mo_bdy P tk) an else (c, M1)) with | (c, M') => if c = 1 then mo_seek P m true M' else if c = 0 then mo_seek P m false M' else (c, M'))) := by
          rintro ⟨c, M1, ps, tk⟩ S4 x5 hc1 k1 k2 k3
          simp only at hc1 k3
          subst hc1
          have hfin := mo_fin_I hW (M := M1) (ps := ps) (body := mo_bdy P tk) (newest := an) k2.1 k2.2.1 (mo_bdy_ok hW hG k2.2.2.2) hanr.1
          have hF4 := hF13.trans k1.2.2.1
          simp only [if_true]
          refine cs_half d hW k1 k2 (newest := an) hanr (by omega) ?_ ?_
          · intro S5 z1 z2 z3
            rw [if_neg (by omega), if_neg (by omega)]
            exact .inr ⟨.inl ⟨z1, rfl⟩, z2, hF4.trans z3⟩
          · intro S5 c y5 z1 z2 z3
            have hS := z2.I
            refine ty_iinc (pc := 181) (i := 3) (n := 1) (ks := []) (ls' := [_, _, _, _, _, _]) (by decide +kernel) rfl rfl ?_
            refine ty_goto (pc := 184) (off := (-180)) (t := 4) (ks := []) (by decide +kernel) ?_
            -- at 4: .iload_n 3
            have hph' : mo_ph (mo_fin P M1 ps (mo_bdy P tk) an).2 < m := by
              have e : mo_ph (mo_fin P M1 ps (mo_bdy P tk) an).2 ≤ mo_ph M1 := by
                unfold mo_ph
                rw [hfin.2.2.2]
                have := hfin.2.2.1
                omega
              omega
            rw [show (1000000 : Int) - ((m + 1 : Nat) : Int) + 1 = 1000000 - (m : Int) by omega]
            rcases z1 with ⟨e, rfl | rfl⟩
            · rw [if_neg (by omega), if_pos e]
              exact ih S5 _ false 0 _ _ (by omega) hph' rfl z2 hfin.2.1 (hF4.trans z3)
            · rw [if_pos e]
              exact ih S5 _ true 1 _ _ (by omega) hph' rfl z2 hfin.2.1 (hF4.trans z3)
        have hround : mo_round P on (st, came, sl, al, ar, (made, bd, ch, ns, dn, an, aw), todo, cs, ans) = (match (if on = true then mo_first P (st, came, sl, al, ar, (made, bd, ch, ns, dn, an, aw), todo, cs, ans) else mo_bk P (st, came, sl, al, ar, (made, bd, ch, ns, dn, an, aw), todo, cs, ans)) with | (c, M1, ps, tk) => if c = 1 then mo_fin P M1 ps (mo_bdy P tk) an else (c, M1)) := rfl
        rw [hround]
        cases on with
        | true =>
          rw [if_pos rfl] at hw
          subst hw
          simp only [if_true]
          refine ty_if_eq (pc := 68) (off := 15) (t := 83) (ks := []) (by decide +kernel) (by omega) (fun hc => ?_) (fun hc => ?_)
          · exact absurd hc (by decide)
          clear hc
          cases todo with
          | nil => exact absurd ⟨rfl, rfl⟩ q1
          | cons g todo =>
            obtain ⟨s, l, r, b⟩ := g
            refine ty_aload_n (pc := 71) (i := 0) (ks := []) (by decide +kernel) rfl ?_
            refine ty_aload_n (pc := 72) (i := 0) (ks := []) (by decide +kernel) rfl ?_
            first | refine ty_getS (pc := 73) (idx := 86) (ci := 5) (f := 9) (by decide +kernel) (by first | rfl | assumption) rfl (by first | exact hS.1 _ _ rfl | assumption) (by assumption) ?_ | (refine ty_getR (pc := 73) (idx := 86) (ci := 5) (f := 9) (by decide +kernel) (by first | rfl | assumption) rfl (by first | exact hS.1 _ _ rfl | assumption) (fun v hv => ?_); (subst hv))
            -- at 76: .invokevirtual 110
            refine ty_callv (pc := 76) (idx := 110) (m := 62) (n := 2) (c := 5) (vs := [_]) (r := []) (by decide +kernel) rfl rfl (Nat.le_of_ble_eq_true rfl) (by first | rfl | assumption) (by first | exact hS.1 _ _ rfl | assumption) (cs_doFirst (d + 1) hW hX3 hI0 htk3 rfl) ?_
            have k2 := fun e => mo_first_I hW hI0 e
            have k3 := fun e => mo_first_ph hW hI0 (by simp) e
            generalize mo_first P (st, came, sl, al, ar, (made, bd, ch, ns, dn, an, aw), (s, l, r, b) :: todo, cs, ans) = R at k2 k3
            rintro o S4 (⟨hcd, rfl, k1⟩ | ⟨hcd, k5, k6⟩)
            · refine ty_KI ?_
              have hS := k1.1.I
              have n2 : R.1 ≠ 2 := by omega
              rcases hcd with e | e
              · rw [e]
                obtain ⟨c, M1, ps, tk⟩ := R
                simp only at e
                subst e
                obtain ⟨X4, -, hF4, -⟩ := k1
                have hS : ty_st S4 := by obtain ⟨_, _, _, _, _, _, _, _, _, _, _, _, hh⟩ := X4; obtain ⟨_, _, _, _, _, ⟨_, _, _, _, _, _, _⟩, _, _, _⟩ := M1; exact hh.1.1
                refine ty_istore_n (pc := 79) (i := 2) (ks := []) (ls' := [_, _, _, _, _, _]) (by decide +kernel) rfl ?_
                refine ty_goto (pc := 80) (off := 25) (t := 105) (ks := []) (by decide +kernel) ?_
                refine ty_aload_n (pc := 105) (i := 0) (ks := []) (by decide +kernel) rfl ?_
                refine ty_getS (b := (13, 0)) (pc := 106) (idx := 52) (ci := 5) (f := 1) (by decide +kernel) (by first | rfl | assumption) rfl (by first | exact hS.1 _ _ rfl | assumption) (by first | exact hS.2.2 _ _ _ _ rfl | assumption) ?_
                refine ty_getI (pc := 109) (idx := 124) (ci := 2) (f := 7) (by decide +kernel) (by first | rfl | assumption) rfl (by first | exact hS.1 _ _ rfl | assumption) (fun v hv => ?_)
                subst hv
                refine ty_istore (pc := 112) (i := 5) (ks := []) (ls' := [_, _, _, _, _, _]) (by decide +kernel) rfl ?_
                refine ty_iload_n (pc := 114) (i := 2) (ks := []) (by decide +kernel) rfl ?_
                -- at 115: .ifCond .eq 18
                refine ty_if_eq (pc := 115) (off := 18) (t := 133) (ks := []) (by decide +kernel) (by omega) (fun hc => ?_) (fun hc => ?_)
                · refine ty_iconst (pc := 133) (n := 0) (ks := []) (by decide +kernel) ?_
                  refine ty_istore_n (pc := 134) (i := 2) (ks := []) (ls' := [_, _, _, _, _, _]) (by decide +kernel) rfl ?_
                  refine ty_iload_n (pc := 135) (i := 2) (ks := []) (by decide +kernel) rfl ?_
                  -- at 136: .ifCond .eq 35
                  refine ty_if_eq (pc := 136) (off := 35) (t := 171) (ks := []) (by decide +kernel) (by omega) (fun hc => ?_) (fun hc => ?_)
                  · refine ty_iconst (pc := 171) (n := 0) (ks := []) (by decide +kernel) ?_
                    refine ty_istore_n (pc := 172) (i := 2) (ks := []) (ls' := [_, _, _, _, _, _]) (by decide +kernel) rfl ?_
                    refine ty_iload_n (pc := 173) (i := 2) (ks := []) (by decide +kernel) rfl ?_
                    -- at 174: .ifCond .eq 7
                    refine ty_if_eq (pc := 174) (off := 7) (t := 181) (ks := []) (by decide +kernel) (by omega) (fun hc => ?_) (fun hc => ?_)
                    · refine ty_iinc (pc := 181) (i := 3) (n := 1) (ks := []) (ls' := [_, _, _, _, _, _]) (by decide +kernel) rfl rfl ?_
                      refine ty_goto (pc := 184) (off := (-180)) (t := 4) (ks := []) (by decide +kernel) ?_
                      -- at 4: .iload_n 3
                      rw [show (1000000 : Int) - ((m + 1 : Nat) : Int) + 1 = 1000000 - (m : Int) by omega]
                      have k3' := (k3 n2).1
                      have k2' := (k2 n2).1
                      exact ih S4 M1 false 0 _ _ (by omega) (by simp only at k3'; omega) rfl X4.Y k2' (hF13.trans hF4)
                    · exact absurd rfl hc
                  · exact absurd rfl hc
                · exact absurd rfl hc
              · obtain ⟨c, M1, ps, tk⟩ := R
                simp only at e
                subst e
                refine ty_istore_n (pc := 79) (i := 2) (ks := []) (ls' := [_, _, _, _, _, _]) (by decide +kernel) rfl ?_
                refine ty_goto (pc := 80) (off := 25) (t := 105) (ks := []) (by decide +kernel) ?_
                -- at 105: .aload_n 0
                exact half (1, M1, ps, tk) S4 _ rfl k1 (k2 n2) (k3 n2).1
            · obtain ⟨c, M1, ps, tk⟩ := R
              simp only at hcd
              rcases hcd with ⟨rfl, rfl⟩ | ⟨rfl, rfl⟩
              · refine ty_KX (by decide +kernel) ?_
                exact .inr ⟨.inl ⟨rfl, rfl⟩, k5, hF13.trans k6⟩
              · refine ty_KX (by decide +kernel) ?_
                exact .inr ⟨.inr ⟨rfl, rfl⟩, k5, hF13.trans k6⟩
        | false =>
          rw [if_neg (by decide)] at hw
          subst hw
          simp only [Bool.false_eq_true, if_false]
          cases cs with
          | nil => exact absurd ⟨rfl, rfl⟩ q2
          | cons c cs =>
            obtain ⟨t, i, td, made', bd', ch', ns', dn', an', aw'⟩ := c
            refine ty_if_eq (pc := 68) (off := 15) (t := 83) (ks := []) (by decide +kernel) (by omega) (fun hc => ?_) (fun hc => ?_)
            · clear hc
              have hL3 := hR3.2.2.2.1
              have hc3 := hR3.2.2.2.2.2.2.1
              refine ty_aload_n (pc := 83) (i := 0) (ks := []) (by decide +kernel) rfl ?_
              refine ty_aload_n (pc := 84) (i := 0) (ks := []) (by decide +kernel) rfl ?_
              refine ty_getS (b := (36, 0)) (pc := 85) (idx := 25) (ci := 5) (f := 10) (by decide +kernel) (by first | rfl | assumption) rfl (by first | exact hS.1 _ _ rfl | assumption) (by first | exact hS.2.2 _ _ _ _ rfl | assumption) ?_
              refine ty_aload_n (pc := 88) (i := 0) (ks := []) (by decide +kernel) rfl ?_
              refine ty_getI (pc := 89) (idx := 28) (ci := 5) (f := 11) (by decide +kernel) (by first | rfl | assumption) rfl (by first | exact hS.1 _ _ rfl | assumption) (fun v hv => ?_)
              subst hv
              refine ty_iconst (pc := 92) (n := 1) (ks := []) (by decide +kernel) ?_
              refine ty_isub (pc := 93) (ks := []) (by decide +kernel) ?_
              -- at 94: .invokevirtual 114
              rw [hc3.1]
              have hk : (((t, i, td, (made', bd', ch', ns', dn', an', aw')) :: cs : List mo_Ch).length : Int) - 1 = cs.length := by
                rw [List.length_cons]
                omega
              rw [hk]
              have hlt : cs.length < n2 := by
                have := hc3.2.1
                rw [List.length_cons] at this
                omega
              refine ty_callv (pc := 94) (idx := 114) (m := 56) (n := 2) (c := 6) (vs := [_]) (r := [_]) (by decide +kernel) rfl rfl (Nat.le_of_ble_eq_true rfl) (by first | rfl | assumption) (by first | exact hS.1 _ _ rfl | assumption) ((jd_get (d + 6) (by decide +kernel) (hS.1 _ _ rfl) hL3.2.1 hlt).deeper (by omega)) ?_
              rintro _ S4 ⟨z, rfl, rfl, rfl⟩
              refine ty_KR ?_
              have hpr : ((52, cs.length) : ai_A).2 < S4.2.2.2.2.2.2.1 ((52, cs.length) : ai_A).1 := by
                show cs.length < S4.2.2.2.2.2.2.1 52
                rw [hL3.2.2.2.1]
                exact hlt
              have hsk : ty_sk ((52, cs.length) : ai_A).1 = (1, 12) := by
                show ty_sk 52 = (1, 12)
                decide +kernel
              refine ty_cast (pc := 97) (idx := 118) (ci := 12) (by decide +kernel) (by first | rfl | assumption) (by first | exact hS.1 _ _ rfl | assumption) ?_
              -- at 100: .invokevirtual 120
              obtain ⟨b1, b2, b3, ⟨d1, d2, d3, d4⟩⟩ := hI0
              simp only at b1 b2 d1 d2 d3 d4
              refine ty_callv (pc := 100) (idx := 120) (m := 81) (n := 2) (c := 5) (vs := [_]) (r := []) (by decide +kernel) rfl rfl (Nat.le_of_ble_eq_true rfl) (by first | rfl | assumption) (by first | exact hS.1 _ _ rfl | assumption) ((cs_goBack (d + 6) hW hX3 ⟨d2.1, d2.2.1⟩ d2.2.2.2 d2.2.2.1 ⟨d3.1, by omega⟩).deeper (by omega)) ?_
              rintro _ S5 ⟨rfl, g1, g2, g3, g4⟩
              refine ty_KV ?_
              refine ty_iconst (pc := 103) (n := 1) (ks := []) (by decide +kernel) ?_
              refine ty_istore_n (pc := 104) (i := 2) (ks := []) (ls' := [_, _, _, _, _, _]) (by decide +kernel) rfl ?_
              -- at 105: .aload_n 0
              have hb1 := mo_bk_ph hW hI (by simp)
              refine half _ S5 _ hb1.2 ⟨g1, g2, g3, ?_⟩ (mo_bk_I hW hI) hb1.1
              have est : (mo_bk P (st, came, sl, al, ar, (made, bd, ch, ns, dn, an, aw), todo, (t, i, td, (made', bd', ch', ns', dn', an', aw')) :: cs, ans)).2.1.1 = st := rfl
              rw [est]
              split <;> omega
            · exact absurd rfl hc
      refine ty_iload_n (pc := 4) (i := 3) (ks := []) (by decide +kernel) rfl ?_
      refine ty_ldc (pc := 5) (idx := 102) (c := 1000000) (z := 1000000) (by decide +kernel) (by decide +kernel) ?_
      -- at 7: .if_icmp .ge 180
      refine ty_icmp_ge (pc := 7) (off := 180) (t := 187) (ks := []) (by decide +kernel) (by omega) (by omega) (fun hc => ?_) (fun hc => ?_)
      · omega
      clear hc
      refine ty_iload_n (pc := 10) (i := 2) (ks := []) (by decide +kernel) rfl ?_
      -- at 11: .ifCond .eq 22
      refine ty_if_eq (pc := 11) (off := 22) (t := 33) (ks := []) (by decide +kernel) (by omega) (fun hc => ?_) (fun hc => ?_)
      · -- back
        have hon : on = false := by
          cases on with
          | false => rfl
          | true => rw [if_pos rfl] at hw; omega
        refine ty_iload_n (pc := 33) (i := 2) (ks := []) (by decide +kernel) rfl ?_
        -- at 34: .ifCond .ne 12
        refine ty_if_ne (pc := 34) (off := 12) (t := 46) (ks := []) (by decide +kernel) (by omega) (fun hc => ?_) (fun hc => ?_)
        · exact absurd ‹w = 0› hc
        clear hc
        refine ty_aload_n (pc := 37) (i := 0) (ks := []) (by decide +kernel) rfl ?_
        refine ty_getI (pc := 38) (idx := 28) (ci := 5) (f := 11) (by decide +kernel) (by first | rfl | assumption) rfl (by first | exact hS.1 _ _ rfl | assumption) (fun v hv => ?_)
        subst hv
        -- at 41: .ifCond .ne 5
        refine ty_if_ne (pc := 41) (off := 5) (t := 46) (ks := []) (by decide +kernel) (by omega) (fun hc => ?_) (fun hc => ?_)
        · refine body (fun z => by rw [hon] at z; exact absurd z.1 (by decide)) (fun z => hc ?_)
          rw [hcc1, z.2]
          rfl
        · refine ty_iconst (pc := 44) (n := 0) (ks := []) (by decide +kernel) ?_
          -- at 45: .ireturn
          refine ty_ret_i (pc := 45) (ks := []) (ty := .boolean) (by decide +kernel) rfl (ty_fit_z (by omega)) ?_
          have hcs : cs = [] := by
            rw [hcc1] at hc
            exact List.length_eq_zero_iff.mp (by omega)
          unfold mo_seek
          simp only
          rw [if_neg (fun z => by rw [hon] at z; exact absurd z.1 (by decide)), if_pos ⟨hon, hcs⟩]
          exact .inl ⟨.inl rfl, rfl, hY0, hI0, hF⟩
      · have hon : on = true := by
          cases on with
          | true => rfl
          | false => rw [if_neg (by decide)] at hw; exact absurd hw hc
        have hw1 := hc
        refine ty_aload_n (pc := 14) (i := 0) (ks := []) (by decide +kernel) rfl ?_
        first | refine ty_getS (pc := 15) (idx := 86) (ci := 5) (f := 9) (by decide +kernel) (by first | rfl | assumption) rfl (by first | exact hS.1 _ _ rfl | assumption) (by assumption) ?_ | (refine ty_getR (pc := 15) (idx := 86) (ci := 5) (f := 9) (by decide +kernel) (by first | rfl | assumption) rfl (by first | exact hS.1 _ _ rfl | assumption) (fun v hv => ?_); (subst hv))
        -- at 18: .ifnonnull 15
        refine ty_ifnonnull (pc := 18) (off := 15) (t := 33) (ks := []) (by decide +kernel) (fun hc => ?_) (fun hc => ?_)
        · refine ty_iload_n (pc := 33) (i := 2) (ks := []) (by decide +kernel) rfl ?_
          -- at 34: .ifCond .ne 12
          have hcn := hc
          refine ty_if_ne (pc := 34) (off := 12) (t := 46) (ks := []) (by decide +kernel) (by omega) (fun hc => ?_) (fun hc => ?_)
          · refine body (fun z => hcn ?_) (fun z => by rw [hon] at z; exact absurd z.1 (by decide))
            have := h6'
            rw [z.2] at this
            exact this
          · exact absurd hc hw1
        · have htd : todo = [] := by
            cases todo with
            | nil => rfl
            | cons g todo =>
              obtain ⟨i, -, hp, -⟩ := h6'
              rw [hc] at hp
              cases hp
          refine ty_aload_n (pc := 21) (i := 0) (ks := []) (by decide +kernel) rfl ?_
          refine ty_dup (pc := 22) (ks := []) (by decide +kernel) rfl ?_
          refine ty_getI (pc := 23) (idx := 31) (ci := 5) (f := 12) (by decide +kernel) (by first | rfl | assumption) rfl (by first | exact hS.1 _ _ rfl | assumption) (fun v hv => ?_)
          subst hv
          refine ty_iconst (pc := 26) (n := 1) (ks := []) (by decide +kernel) ?_
          refine ty_iadd (pc := 27) (ks := []) (by decide +kernel) ?_
          refine ty_putI (pc := 28) (idx := 31) (ci := 5) (f := 12) (by decide +kernel) (by first | rfl | assumption) rfl rfl (by first | exact hS.1 _ _ rfl | assumption) ?_
          refine ty_iconst (pc := 31) (n := 1) (ks := []) (by decide +kernel) ?_
          -- at 32: .ireturn
          refine ty_ret_i (pc := 32) (ks := []) (ty := .boolean) (by decide +kernel) rfl (ty_fit_z (by omega)) ?_
          unfold mo_seek
          simp only
          rw [if_pos ⟨hon, htd⟩]
          rw [hans1]
          have nI : ∀ b j, b ≠ (17, 0) → (ty_sI (cs_C S1) (17, 0) 12 (ans + 1)).1 b j = (cs_C S1).1 b j := fun b j hb => if_neg (fun w => hb w.1)
          have sI : ∀ j, j ≠ 12 → (ty_sI (cs_C S1) (17, 0) 12 (ans + 1)).1 (17, 0) j = (cs_C S1).1 (17, 0) j := fun j hj => if_neg (fun w => hj w.2)
          have hRa : cs_R (ty_sI (cs_C S1) (17, 0) 12 (ans + 1)) P K th (st, came, sl, al, ar, (made, bd, ch, ns, dn, an, aw), todo, cs, ans + 1) [] [] false B F E n D1 n1 c1 D2 n2 c2 u W := by
            refine cs_R_gen (S' := ty_sI (cs_C S1) (17, 0) 12 (ans + 1)) hR0 hS rfl (fun b j hb _ => nI b j hb) (fun _ _ _ => rfl) rfl (sI _ (by decide)) ty_sI_at (by rw [sI _ (by decide)]; exact h5) (cs_td_eq (fun i _ j => ⟨nI _ _ (by simp), rfl⟩) h6) (by rw [sI _ (by decide)]; exact h7) ?_
            exact cs_ck_keep cs _ _ h8 ⟨Int.le_refl _, Int.le_refl _, Int.le_refl _, Nat.le_refl _, Int.le_refl _, Int.le_refl _, Int.le_refl _⟩ (fun i _ j => ⟨nI _ _ (by simp), rfl⟩) (fun i _ j => ⟨nI _ _ (by simp), rfl⟩) (fun _ _ _ _ _ _ _ _ _ _ _ _ _ z => z)
          have ec : cs_C (ty_sI S1 (17, 0) 12 (ans + 1)) = ty_sI (cs_C S1) (17, 0) 12 (ans + 1) := by
            unfold cs_C
            rw [ty_sI_comm (S := S1) (a := (17, 0)) (k := 12) (b := (38, 0)) (j := 5) (by decide), ty_sI_comm (S := ty_sI S1 (38, 0) 5 0) (a := (17, 0)) (k := 12) (b := (38, 0)) (j := 7) (by decide)]
          refine .inl ⟨.inr rfl, rfl, ?_, hI0, hF.trans (cs_F_own rfl (fun b j hb => if_neg (fun w => hb w.1)) (fun _ _ _ => rfl))⟩
          unfold cs_Y
          rw [ec]
          exact ⟨_, _, _, _, _, _, _, _, _, _, _, _, hRa⟩
  refine ty_enter (ml := 6) (ls := [_, _, _, _, _, _]) rfl rfl (Nat.le_of_ble_eq_true rfl) ?_
  refine ty_iload_n (pc := 0) (i := 1) (ks := []) (by decide +kernel) rfl ?_
  refine ty_istore_n (pc := 1) (i := 2) (ks := []) (ls' := [_, _, _, _, _, _]) (by decide +kernel) rfl ?_
  refine ty_iconst (pc := 2) (n := 0) (ks := []) (by decide +kernel) ?_
  refine ty_istore_n (pc := 3) (i := 3) (ks := []) (ls' := [_, _, _, _, _, _]) (by decide +kernel) rfl ?_
  -- at 4: .iload_n 3
  have hb := mo_ph_bound hW.2.1 hI
  have := loop 1000000 S M on ob none none (Nat.le_refl _) (by omega) hob h hI cs_F.refl
  exact this
end CSS
