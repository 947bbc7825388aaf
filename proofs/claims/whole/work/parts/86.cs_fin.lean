/-! The second half of a round. -/
/-- the pairs are thrown away -/
def cs_C (S : ty_S) : ty_S := ty_sI (ty_sI S (38, 0) 5 0) (38, 0) 7 0
theorem cs_C_I {S : ty_S} {b : ai_A} {j : Nat} (hb : b ≠ (38, 0)) : (cs_C S).1 b j = S.1 b j := (ty_sI_ne (fun w => hb w.1)).trans (ty_sI_ne (fun w => hb w.1))
theorem cs_C_2 {S : ty_S} : (cs_C S).2 = S.2 := rfl
theorem cs_C_F {S : ty_S} : cs_F S (cs_C S) := ⟨fun _ a _ => ⟨cs_C_I (cs_F_fst (cs_F_ne a rfl)), rfl⟩, fun _ _ => ⟨rfl, fun _ => rfl, rfl⟩, rfl, fun _ _ => rfl⟩
theorem cs_R_clear {S : ty_S} {P : mo_P} {K : Nat × Nat} {th : Nat} {st came : Int} {sl al ar : Int → Int} {made : Int} {bd : Int → Int} {ch : Int → List Int} {ns : Int} {dn : List Int} {an : Int} {aw : Int → Bool} {todo : List mo_Go} {cs : List mo_Ch} {ans : Int} {ps : List (Int × Int)} {wk : List Int} {fl : Bool} {B F E : ai_A} {n : Nat} {D1 : ai_A} {n1 c1 : Nat} {D2 : ai_A} {n2 c2 u W : Nat}
    (h : cs_R S P K th (st, came, sl, al, ar, (made, bd, ch, ns, dn, an, aw), todo, cs, ans) ps wk fl B F E n D1 n1 c1 D2 n2 c2 u W) :
    cs_R (cs_C S) P K th (st, came, sl, al, ar, (made, bd, ch, ns, dn, an, aw), todo, cs, ans) [] [] false B F E n D1 n1 c1 D2 n2 c2 u W := by
  have h0 := h
  obtain ⟨h1, h2, h3, h4, h5, h6, h7, h8, h9, h10, h11⟩ := h
  obtain ⟨r1, r2, r3, r4, r5, r6, r7, r8, r9, r10, r11, r12⟩ := h1
  have nI : ∀ b j, b ≠ (38, 0) → (cs_C S).1 b j = S.1 b j := fun b j hb => cs_C_I hb
  have i1 : (cs_C S).1 (38, 0) 5 = 0 := (ty_sI_ne (by decide)).trans ty_sI_at
  have i2 : (cs_C S).1 (38, 0) 7 = 0 := ty_sI_at
  refine cs_R_v (S' := cs_C S) h0 ⟨r1, r2, r3, ?_, ?_, ?_, ?_, r8, r9, ?_, ?_, r12⟩ ?_ rfl rfl (fun b j _ hb _ _ => nI b j hb) (fun _ _ _ => rfl) (Int.le_refl _) (nI _ _ (by decide)) ?_ ?_
  · rw [nI _ _ (by decide)]; exact r4
  · rw [nI _ _ (by decide)]; exact r5
  · rw [i1]; rfl
  · rw [i2]; exact ⟨rfl, trivial⟩
  · rw [nI _ _ (by decide)]; exact r10
  · rw [nI _ _ (by decide)]; exact r11
  · unfold ca_R
    rw [nI _ _ (by decide), nI _ _ (by decide)]
    exact h2
  · rw [nI _ _ (by decide)]; exact h9.2.1
  · have eA : cs_arr (cs_C S) B F E = cs_arr S B F E := by
      unfold cs_arr
      rw [nI _ _ (by decide), nI _ _ (by decide), nI _ _ (by decide)]
      rfl
    rw [eA, nI _ _ (by decide), nI _ _ (by decide), nI _ _ (by decide)]
    exact cs_ck_keep cs _ _ h8 ⟨Int.le_refl _, Int.le_refl _, Int.le_refl _, Nat.le_refl _, Int.le_refl _, Int.le_refl _, Int.le_refl _⟩ (fun i _ j => ⟨nI _ _ (by simp), rfl⟩) (fun i _ j => ⟨nI _ _ (by simp), rfl⟩) (fun _ _ _ _ _ _ _ _ _ _ _ _ _ z => z)
/-- between rounds -/
def cs_Y (S : ty_S) (P : mo_P) (K : Nat × Nat) (th : Nat) (M : mo_M) : Prop := cs_X (cs_C S) P K th M [] [] false
theorem cs_X.Y {S : ty_S} {P : mo_P} {K : Nat × Nat} {th : Nat} {M : mo_M} {ps : List (Int × Int)} {wk : List Int} {fl : Bool} (h : cs_X S P K th M ps wk fl) : cs_Y S P K th M := by
  obtain ⟨B, F, E, n, D1, n1, c1, D2, n2, c2, u, W, hR⟩ := h
  obtain ⟨st, came, sl, al, ar, ⟨made, bd, ch, ns, dn, an, aw⟩, todo, cs, ans⟩ := M
  exact ⟨B, F, E, n, D1, n1, c1, D2, n2, c2, u, W, cs_R_clear hR⟩
theorem cs_Y.I {S : ty_S} {P : mo_P} {K : Nat × Nat} {th : Nat} {M : mo_M} (h : cs_Y S P K th M) : cs_I S K th := by
  obtain ⟨B, F, E, n, D1, n1, c1, D2, n2, c2, h1, h2, h3, h4, h5, h6, h7⟩ := cs_X.I h
  refine ⟨B, F, E, n, D1, n1, c1, D2, n2, c2, h1, h2, ⟨?_, ?_, h3.2.2⟩, h4, h5, h6, h7⟩
  · exact jd_al_keep h3.1 (cs_C_I (by decide)).symm rfl (fun _ => ⟨rfl, rfl⟩) (fun _ => Nat.le_refl _)
  · exact jd_al_keep h3.2.1 (cs_C_I (by decide)).symm rfl (fun _ => ⟨rfl, rfl⟩) (fun _ => Nat.le_refl _)
theorem mo_cg_wg {sl : Int → Int} {wk : List Int} : mo_cg (wk.map sl) = mo_wg sl wk := by
  unfold mo_cg mo_wg
  rw [List.map_map]
  rfl
theorem cs_I_ca {S S' : ty_S} {K : Nat × Nat} {th : Nat} {B F E : ai_A} (h : cs_I S K th) (hf : ca_fm S S' B F E) (ek : S'.2.2.2.2.2.2.2 = (S.2.2.2.2.2.2.2.1 + 1, S.2.2.2.2.2.2.2.2 + 6)) : cs_I S' K (th + 1) :=
  cs_I_th h hf.2.1 (fun b j hb => hf.1 b j (by rcases hb with rfl | rfl <;> decide) (by rcases hb with rfl | rfl <;> decide) (by rcases hb with rfl | rfl <;> decide) (by rcases hb with rfl | rfl <;> simp)) hf.2.2.2.1 hf.2.2.2.2.2.1 hf.2.2.2.2.2.2 ek
section CSH
variable {L : Nat} {xs : Nat → Int32} {S : ty_S}
theorem cs_half (d : Nat) {P : mo_P} (hW : mo_PW P) {K : Nat × Nat} {th : Nat} {M : mo_M} {ps : List (Int × Int)} {tk : Option (Int × Int × Int)} {S0 : ty_S} (h : cs_1 S0 P K th (1, M, ps, tk) S) (hI : mo_1I P (1, M, ps, tk)) {newest rd : Int} (hnew : 0 ≤ newest ∧ newest ≤ 500) (hrd : 0 ≤ rd ∧ rd ≤ 1000000) {ob : Int} {x5 : Option ai_V} {Q : ai_O → ty_S → Prop}
    (dead : ∀ S3, (mo_fin P M ps (mo_bdy P tk) newest).1 = 2 → cs_I S3 K (th + 1) → cs_F S S3 → Q (.inr 1) S3)
    (go : ∀ S3 c y5, ((mo_fin P M ps (mo_bdy P tk) newest).1 = c ∧ (c = 0 ∨ c = 1)) → cs_Y S3 P K th (mo_fin P M ps (mo_bdy P tk) newest).2 → cs_F S S3 → ty_W L xs (d + 10) 60 181 [some (.inr (.inr (some (17, 0)))), some (.inl (ty_J ob)), some (.inl (ty_J c)), some (.inl (ty_J rd)), some (.inl (ty_J newest)), y5] [] S3 Q) :
    ty_W L xs (d + 10) 60 105 [some (.inr (.inr (some (17, 0)))), some (.inl (ty_J ob)), some (.inl (ty_J 1)), some (.inl (ty_J rd)), some (.inl (ty_J newest)), x5] [] S Q := by
  obtain ⟨st, came, sl, al, ar, ⟨made, bd, ch, ns, dn, an, aw⟩, todo, cs, ans⟩ := M
  obtain ⟨hX, htk, hF, hu⟩ := h
  obtain ⟨B, F, E, n, D1, n1, c1, D2, n2, c2, u, W, hR⟩ := hX
  obtain ⟨hM, hpo, hlen, htok⟩ := hI
  obtain ⟨b1, b2, ⟨a1, a2, a3, a4, a5, a6, a7, a8⟩, b4⟩ := hM
  simp only at hR htk hu hpo hlen htok b1 b2 a1 a2 a3 a4 a5 a6 a7 a8 b4
  have hR0 := hR
  obtain ⟨h1, h2, h3, h4, h5, h6, h7, h8, h9, h10, h11⟩ := hR
  have hS := h1.1
  have hmade : made ≤ 100000 := by omega
  have cw0 : mo_cw made ns bd ch (dn ++ []) := by rw [List.append_nil]; exact a3
  obtain ⟨j1, j2, j3, j4, -⟩ := mo_un_inv hW.1 hmade (tr := false) (ns := ns) (dn := dn) (501 - st).toNat st ps bd ch [] false (by omega) b1.2 hpo a2 cw0
  have er : mo_un P.1 false (501 - st).toNat st (ps, bd, ch, [], false) = mo_ur P.1 false st (ps, bd, ch, [], false) := rfl
  rw [er] at j1 j2 j3 j4
  have hms := cp_makeSame (L := L) (xs := xs) (S := S) (d + 6) hW.1 hmade (dn := dn) false (tb := 0) rfl hlen h1 hpo a2 cw0
  have hwk0 : ps = [] → (mo_ur P.1 false st (ps, bd, ch, [], false)).2.2.2.2.1 = [] := by
    intro e
    rw [e]
    unfold mo_ur
    obtain ⟨m, hm⟩ : ∃ m : Nat, (501 - st).toNat = m + 1 := ⟨(500 - st).toNat, by omega⟩
    rw [hm]
    rfl
  unfold mo_fin at dead go
  simp only at dead go
  generalize mo_ur P.1 false st (ps, bd, ch, [], false) = r at j1 j2 j3 j4 hms hwk0 dead go
  obtain ⟨c, st1, bd1, ch1, wk, fl⟩ := r
  simp only at j1 j2 j3 j4 hwk0 dead go
  have hbc := h1.2.2.2.2.2.2.2.2.2.1.1
  refine ty_aload_n (pc := 105) (i := 0) (ks := []) (by decide +kernel) rfl ?_
  refine ty_getS (b := (13, 0)) (pc := 106) (idx := 52) (ci := 5) (f := 1) (by decide +kernel) (by first | rfl | assumption) rfl (by first | exact hS.1 _ _ rfl | assumption) (by first | exact hS.2.2 _ _ _ _ rfl | assumption) ?_
  refine ty_getI (pc := 109) (idx := 124) (ci := 2) (f := 7) (by decide +kernel) (by first | rfl | assumption) rfl (by first | exact hS.1 _ _ rfl | assumption) (fun v hv => ?_)
  subst hv
  refine ty_istore (pc := 112) (i := 5) (ks := []) (ls' := [_, _, _, _, _, _]) (by decide +kernel) rfl ?_
  refine ty_iload_n (pc := 114) (i := 2) (ks := []) (by decide +kernel) rfl ?_
  -- at 115: .ifCond .eq 18
  refine ty_if_eq (pc := 115) (off := 18) (t := 133) (ks := []) (by decide +kernel) (by omega) (fun hc => ?_) (fun hc => ?_)
  · exact absurd hc (by decide)
  clear hc
  refine ty_aload_n (pc := 118) (i := 0) (ks := []) (by decide +kernel) rfl ?_
  refine ty_getS (b := (38, 0)) (pc := 119) (idx := 60) (ci := 5) (f := 3) (by decide +kernel) (by first | rfl | assumption) rfl (by first | exact hS.1 _ _ rfl | assumption) (by first | exact hS.2.2 _ _ _ _ rfl | assumption) ?_
  refine ty_iconst (pc := 122) (n := 0) (ks := []) (by decide +kernel) ?_
  -- at 123: .invokevirtual 127
  refine ty_callv (pc := 123) (idx := 127) (m := 85) (n := 2) (c := 8) (vs := [_]) (r := []) (by decide +kernel) rfl rfl (Nat.le_of_ble_eq_true rfl) (by first | rfl | assumption) (by first | exact hS.1 _ _ rfl | assumption) hms ?_
  clear hms
  rintro o S1 ⟨⟨f1, -⟩, h⟩
  have hF1 := f1.ca.F h1.2.1
  simp only at h
  rcases h with ⟨rfl, rfl, k1, k2, k3, k4⟩ | ⟨rfl, rfl, ⟨ps1, k1⟩, k2, k3⟩ | ⟨rfl, rfl, k3⟩
  · -- made same
    refine ty_KI ?_
    refine ty_if_eq (pc := 126) (off := 7) (t := 133) (ks := []) (by decide +kernel) (by omega) (fun hc => ?_) (fun hc => ?_)
    · exact absurd hc (by decide)
    clear hc
    have hA1 := ca_R_keep h1.2.1 f1 h2 (show st ≤ st1 from j2.1)
    have hR1 := cs_R_ca hR0 (dn' := dn ++ wk) k1 hA1.1 f1.ca k2 hA1.2 k3 j2.1
    have hS := k1.1
    have hbc1 := k1.2.2.2.2.2.2.2.2.2.1.1
    rw [if_pos rfl] at dead go
    refine ty_iconst (pc := 129) (n := 1) (ks := []) (by decide +kernel) ?_
    refine ty_goto (pc := 130) (off := 4) (t := 134) (ks := []) (by decide +kernel) ?_
    refine ty_istore_n (pc := 134) (i := 2) (ks := []) (ls' := [_, _, _, _, _, _]) (by decide +kernel) rfl ?_
    refine ty_iload_n (pc := 135) (i := 2) (ks := []) (by decide +kernel) rfl ?_
    -- at 136: .ifCond .eq 35
    refine ty_if_eq (pc := 136) (off := 35) (t := 171) (ks := []) (by decide +kernel) (by omega) (fun hc => ?_) (fun hc => ?_)
    · exact absurd hc (by decide)
    clear hc
    -- from where to test
    have hhold : ∀ fr, fr = (if fl = true then (0 : Int) else newest) → 0 ≤ fr ∧ fr ≤ 1000 → ty_W L xs (d + 10) 60 161 [some (.inr (.inr (some (17, 0)))), some (.inl (ty_J ob)), some (.inl (ty_J 1)), some (.inl (ty_J rd)), some (.inl (ty_J newest)), some (.inl (ty_J (S.1 (13, 0) 7)))] [.inl (ty_J fr), .inr (.inr (some (39, 0)))] S1 Q := by
      intro fr hfr hfr2
      rw [← hfr] at dead go
      have hho := ca_hold (L := L) (xs := xs) (d + 5) hW.1 hmade (dn := dn) j3 j4 a7 hfr2 k1 hA1.1
      have hhi : st1 ≤ (mo_hold P.1 bd1 ch1 wk al ar (an - fr).toNat st1 fr aw).2.1 := by
        by_cases hle : fr ≤ an
        · exact (mo_hold_inv hW.1 hmade j3 j4 a7 _ st1 fr aw hfr2.1 (by omega) (by omega) j2.2).2.1
        · rw [show (an - fr).toNat = 0 by omega]
          exact Int.le_refl _
      generalize mo_hold P.1 bd1 ch1 wk al ar (an - fr).toNat st1 fr aw = q at hho hhi dead go
      obtain ⟨hh, st2, aw2⟩ := q
      simp only at hho hhi dead go
      refine ty_callv (pc := 161) (idx := 131) (m := 89) (n := 2) (c := 9) (vs := [_]) (r := []) (by decide +kernel) rfl rfl (Nat.le_of_ble_eq_true rfl) (by first | rfl | assumption) (by first | exact hS.1 _ _ rfl | assumption) hho ?_
      clear hho
      rintro o S2 ⟨g1, g2⟩
      have hF2 := g1.F k1.2.1
      simp only at g2
      rcases g2 with ⟨gc, rfl, ⟨ps2, g3⟩, g4, g5, g6, g7⟩ | ⟨rfl, rfl, g7⟩
      · have hR2 := cs_R_ca hR1 (dn' := dn ++ wk) g3 g4 g1 g5 g6 g7 hhi
        have hS := g3.1
        refine ty_KI ?_
        rcases gc with rfl | rfl
        · refine ty_if_eq (pc := 164) (off := 7) (t := 171) (ks := []) (by decide +kernel) (by omega) (fun hc => ?_) (fun hc => ?_)
          · refine ty_iconst (pc := 171) (n := 0) (ks := []) (by decide +kernel) ?_
            refine ty_istore_n (pc := 172) (i := 2) (ks := []) (ls' := [_, _, _, _, _, _]) (by decide +kernel) rfl ?_
            refine ty_iload_n (pc := 173) (i := 2) (ks := []) (by decide +kernel) rfl ?_
            -- at 174: .ifCond .eq 7
            refine ty_if_eq (pc := 174) (off := 7) (t := 181) (ks := []) (by decide +kernel) (by omega) (fun hc => ?_) (fun hc => ?_)
            · exact go S2 0 _ ⟨rfl, .inl rfl⟩ (cs_X.Y ⟨_, _, _, _, _, _, _, _, _, _, _, _, hR2⟩) (hF1.trans hF2)
            · exact absurd rfl hc
          · exact absurd rfl hc
        · refine ty_if_eq (pc := 164) (off := 7) (t := 171) (ks := []) (by decide +kernel) (by omega) (fun hc => ?_) (fun hc => ?_)
          · exact absurd hc (by decide)
          · clear hc
            refine ty_iconst (pc := 167) (n := 1) (ks := []) (by decide +kernel) ?_
            refine ty_goto (pc := 168) (off := 4) (t := 172) (ks := []) (by decide +kernel) ?_
            refine ty_istore_n (pc := 172) (i := 2) (ks := []) (ls' := [_, _, _, _, _, _]) (by decide +kernel) rfl ?_
            refine ty_iload_n (pc := 173) (i := 2) (ks := []) (by decide +kernel) rfl ?_
            -- at 174: .ifCond .eq 7
            refine ty_if_eq (pc := 174) (off := 7) (t := 181) (ks := []) (by decide +kernel) (by omega) (fun hc => ?_) (fun hc => ?_)
            · exact absurd hc (by decide)
            · clear hc
              refine ty_aload_n (pc := 177) (i := 0) (ks := []) (by decide +kernel) rfl ?_
              -- at 178: .invokevirtual 135
              obtain ⟨l1, l2, l3, l4, l5, l6, l7, l8, l9, l10, l11⟩ := hR2
              have hwl : wk.length ≤ 500 := by
                have h12 := h1.2.2.2.2.2.2.2.2.2.2.2
                have := mo_count ns.toNat wk (List.nodup_append.mp j4.2.2.1).2.1 (fun e he => by
                  have := j4.2.2.2 e (List.mem_append.mpr (.inr he))
                  omega)
                omega
              have fin : ∀ (gs : List (Int × Int × Int)) (base bar : Int), mo_bdy P tk = mo_bd gs base bar → gs.length ≤ 24 → (tk = none → gs = []) → ∀ S4, (∃ D1' n1' c1', cs_Q S2 S4 u D1 n1 c1 D2 n2 c2 (u + gs.length + (wk.map sl).length) (mo_cg (wk.map sl) ++ (mo_bd gs base bar ++ todo)) D1' n1' c1') → cs_Y S4 P K th (st2, came, sl, al, ar, (made, bd1, ch1, ns, dn ++ wk, an, aw2), mo_wg sl wk ++ mo_bdy P tk ++ todo, cs, ans) ∧ cs_F S S4 := by
                rintro gs base bar e1 e2 e3 S4 ⟨D1', n1', c1', hq⟩
                rw [mo_cg_wg, ← e1, ← List.append_assoc] at hq
                have hub : ((u + gs.length + (wk.map sl).length : Nat) : Int) ≤ 24 + 524 * st2 := by
                  rw [List.length_map]
                  have hu1 := h5.1
                  by_cases ez : ps = [] ∧ tk = none
                  · rw [if_pos ez] at hu
                    rw [hwk0 ez.1, e3 ez.2]
                    simp only [List.length_nil]
                    omega
                  · rw [if_neg ez] at hu
                    omega
                exact ⟨cs_X.Y ⟨_, _, _, _, _, _, _, _, _, _, _, _, cs_R_front ⟨l1, l2, l3, l4, l5, l6, l7, l8, l9, l10, l11⟩ hq hub⟩, (hF1.trans hF2).trans hq.2.2.1.F⟩
              have hR2ref : S2.2.1 = S.2.1 := g1.2.1.trans f1.2.1
              have hw7 := l1.2.2.2.2.2.2.1
              simp only at hw7
              have hn1 := l5.2.2.2.1
              cases tk with
              | none =>
                have htk2 : S2.2.1 (17, 0) 13 = none := by rw [hR2ref]; exact htk
                refine ty_callv (pc := 178) (idx := 135) (m := 91) (n := 1) (c := 5) (vs := []) (r := []) (by decide +kernel) rfl rfl (Nat.le_of_ble_eq_true rfl) (by first | rfl | assumption) (by first | exact hS.1 _ _ rfl | assumption) (cs_putInFront (d + 1) hS l4 l5.1 l5.2.1 (by omega) l6 (wl := wk.map sl) (by rw [List.length_map]; exact hw7) (by rw [List.length_map]; exact hwl) htk2 (x := 0) (start := 0) (nv := 0) (gs := []) ⟨rfl, rfl⟩ (fun a ha => (nomatch ha)) (fun _ => rfl)) ?_
                rintro _ S4 ⟨rfl, hq⟩
                refine ty_KV ?_
                obtain ⟨z1, z2⟩ := fin [] _ _ rfl (Nat.zero_le _) (fun _ => rfl) S4 hq
                exact go S4 1 _ ⟨rfl, .inr rfl⟩ z1 z2
              | some t =>
                obtain ⟨i, base, bar⟩ := t
                obtain ⟨a, x, t1, t2, t3, t4, t5⟩ := htk
                have htk2 : S2.2.1 (17, 0) 13 = some a := by rw [hR2ref]; exact t1
                have hFF := hF1.trans hF2
                have sI : ∀ j, S2.1 (17, 0) j = S.1 (17, 0) j := fun j => (g1.1 _ j (by decide) (by decide) (by decide) (by simp)).trans (f1.1 _ j (by decide) (by decide) (by simp))
                refine ty_callv (pc := 178) (idx := 135) (m := 91) (n := 1) (c := 5) (vs := []) (r := []) (by decide +kernel) rfl rfl (Nat.le_of_ble_eq_true rfl) (by first | rfl | assumption) (by first | exact hS.1 _ _ rfl | assumption) (cs_putInFront (d + 1) hS l4 l5.1 l5.2.1 (by omega) l6 (wl := wk.map sl) (by rw [List.length_map]; exact hw7) (by rw [List.length_map]; exact hwl) htk2 (x := x) (base := base) (bar := bar) (gs := P.2.2.2.2 i) ⟨(sI _).trans t4, (sI _).trans t5⟩ (fun a' ha => by cases ha; exact ⟨t2, cs_co_F hFF t2 t3⟩) (fun z => (nomatch z))) ?_
                rintro _ S4 ⟨rfl, hq⟩
                refine ty_KV ?_
                obtain ⟨z1, z2⟩ := fin (P.2.2.2.2 i) base bar rfl t3.2.2.2.1 (fun z => (nomatch z)) S4 hq
                exact go S4 1 _ ⟨rfl, .inr rfl⟩ z1 z2
      · refine ty_KX (by decide +kernel) ?_
        exact dead S2 rfl (cs_I_ca hR1.I g1 g7) (hF1.trans hF2)
    have hfl : fl = true ↔ S.1 (13, 0) 7 < S1.1 (13, 0) 7 := by
      rw [k4]
      simp
    refine ty_aload_n (pc := 139) (i := 0) (ks := []) (by decide +kernel) rfl ?_
    refine ty_getS (b := (39, 0)) (pc := 140) (idx := 69) (ci := 5) (f := 4) (by decide +kernel) (by first | rfl | assumption) rfl (by first | exact hS.1 _ _ rfl | assumption) (by first | exact hS.2.2 _ _ _ _ rfl | assumption) ?_
    refine ty_aload_n (pc := 143) (i := 0) (ks := []) (by decide +kernel) rfl ?_
    refine ty_getS (b := (13, 0)) (pc := 144) (idx := 52) (ci := 5) (f := 1) (by decide +kernel) (by first | rfl | assumption) rfl (by first | exact hS.1 _ _ rfl | assumption) (by first | exact hS.2.2 _ _ _ _ rfl | assumption) ?_
    refine ty_getI (pc := 147) (idx := 124) (ci := 2) (f := 7) (by decide +kernel) (by first | rfl | assumption) rfl (by first | exact hS.1 _ _ rfl | assumption) (fun v hv => ?_)
    subst hv
    refine ty_iload (pc := 150) (i := 5) (ks := []) (by decide +kernel) rfl ?_
    -- at 152: .if_icmp .le 7
    refine ty_icmp_le (pc := 152) (off := 7) (t := 159) (ks := []) (by decide +kernel) (by omega) (by omega) (fun hc => ?_) (fun hc => ?_)
    · refine ty_iload (pc := 159) (i := 4) (ks := []) (by decide +kernel) rfl ?_
      -- at 161: .invokevirtual 131
      exact hhold newest (by rw [if_neg (fun z => by have := hfl.mp z; omega)]) (by omega)
    · refine ty_iconst (pc := 155) (n := 0) (ks := []) (by decide +kernel) ?_
      refine ty_goto (pc := 156) (off := 5) (t := 161) (ks := []) (by decide +kernel) ?_
      -- at 161: .invokevirtual 131
      exact hhold 0 (by rw [if_pos (hfl.mpr (by omega))]) (by omega)
  · -- it fails
    refine ty_KI ?_
    refine ty_if_eq (pc := 126) (off := 7) (t := 133) (ks := []) (by decide +kernel) (by omega) (fun hc => ?_) (fun hc => ?_)
    · clear hc
      have hA1 := ca_R_keep h1.2.1 f1 h2 (show st ≤ st1 from j2.1)
      have hR1 := cs_R_ca hR0 (dn' := dn ++ wk) k1 hA1.1 f1.ca k2 hA1.2 k3 j2.1
      rw [if_neg (by decide)] at dead go
      refine ty_iconst (pc := 133) (n := 0) (ks := []) (by decide +kernel) ?_
      refine ty_istore_n (pc := 134) (i := 2) (ks := []) (ls' := [_, _, _, _, _, _]) (by decide +kernel) rfl ?_
      refine ty_iload_n (pc := 135) (i := 2) (ks := []) (by decide +kernel) rfl ?_
      -- at 136: .ifCond .eq 35
      refine ty_if_eq (pc := 136) (off := 35) (t := 171) (ks := []) (by decide +kernel) (by omega) (fun hc => ?_) (fun hc => ?_)
      · refine ty_iconst (pc := 171) (n := 0) (ks := []) (by decide +kernel) ?_
        refine ty_istore_n (pc := 172) (i := 2) (ks := []) (ls' := [_, _, _, _, _, _]) (by decide +kernel) rfl ?_
        refine ty_iload_n (pc := 173) (i := 2) (ks := []) (by decide +kernel) rfl ?_
        -- at 174: .ifCond .eq 7
        refine ty_if_eq (pc := 174) (off := 7) (t := 181) (ks := []) (by decide +kernel) (by omega) (fun hc => ?_) (fun hc => ?_)
        · exact go S1 0 _ ⟨rfl, .inl rfl⟩ (cs_X.Y ⟨_, _, _, _, _, _, _, _, _, _, _, _, hR1⟩) hF1
        · exact absurd rfl hc
      · exact absurd rfl hc
    · exact absurd rfl hc
  · refine ty_KX (by decide +kernel) ?_
    rw [if_neg (by decide)] at dead
    exact dead S1 rfl (cs_I_ca hR0.I f1.ca k3) hF1
end CSH
