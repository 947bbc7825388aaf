/-! MAKING TERMS SAME: the whole of it. -/
/-- all pairs, with the steps that are left -/
def mo_ur (G : mo_G) (tr : Bool) (st : Int) (u : mo_U) : Int × Int × (Int → Int) × (Int → List Int) × List Int × Bool := mo_un G tr (501 - st).toNat st u
theorem mo_un_inv {G : mo_G} (hw : mo_wf G) {made ns : Int} (hmade : made ≤ 100000) {tr : Bool} {dn : List Int} : ∀ (m : Nat) (st : Int) (ps : List (Int × Int)) (bd : Int → Int) (ch : Int → List Int) (wk : List Int) (fl : Bool), 501 - st ≤ m → st ≤ 500 → mo_po G made ps → mo_bw G made bd → mo_cw made ns bd ch (dn ++ wk) →
    ((mo_un G tr m st (ps, bd, ch, wk, fl)).1 = 0 ∨ (mo_un G tr m st (ps, bd, ch, wk, fl)).1 = 1 ∨ (mo_un G tr m st (ps, bd, ch, wk, fl)).1 = 2) ∧ (st ≤ (mo_un G tr m st (ps, bd, ch, wk, fl)).2.1 ∧ (mo_un G tr m st (ps, bd, ch, wk, fl)).2.1 ≤ 500) ∧ mo_bw G made (mo_un G tr m st (ps, bd, ch, wk, fl)).2.2.1 ∧ mo_cw made ns (mo_un G tr m st (ps, bd, ch, wk, fl)).2.2.1 (mo_un G tr m st (ps, bd, ch, wk, fl)).2.2.2.1 (dn ++ (mo_un G tr m st (ps, bd, ch, wk, fl)).2.2.2.2.1) ∧
    (tr = true → (mo_un G tr m st (ps, bd, ch, wk, fl)).2.2.2.1 = ch ∧ (mo_un G tr m st (ps, bd, ch, wk, fl)).2.2.2.2.1 = wk) := by
  intro m
  induction m with
  | zero => intro st ps bd ch wk fl h1 h2; omega
  | succ m ih =>
    intro st ps bd ch wk fl h1 h2 hp hb hc
    cases ps with
    | nil => exact ⟨.inr (.inl rfl), ⟨Int.le_refl _, h2⟩, hb, hc, fun _ => ⟨rfl, rfl⟩⟩
    | cons p ps =>
      unfold mo_un
      by_cases e : 500 ≤ st
      · rw [if_pos e]
        exact ⟨.inr (.inr rfl), ⟨Int.le_refl _, h2⟩, hb, hc, fun _ => ⟨rfl, rfl⟩⟩
      · rw [if_neg e]
        have hpp := hp p List.mem_cons_self
        have v1 := mo_val_isval hw hb (.inl hpp.1)
        have v2 := mo_val_isval hw hb (.inl hpp.2)
        cases hu : mo_u1 G tr (mo_val G bd p.1) (mo_val G bd p.2) ps bd ch wk fl with
        | none => exact ⟨.inl rfl, ⟨show st ≤ st + 1 by omega, show st + 1 ≤ 500 by omega⟩, hb, hc, fun _ => ⟨rfl, rfl⟩⟩
        | some u =>
          obtain ⟨ps', bd', ch', wk', fl'⟩ := u
          obtain ⟨i1, i2, i3, i4, i5⟩ := mo_u1_inv hw hmade hu v1 v2 hb hc (fun q hq => hp q (List.mem_cons_of_mem _ hq))
          obtain ⟨j1, j2, j3, j4, j5⟩ := ih (st + 1) ps' bd' ch' wk' fl' (by omega) (by omega) i1 i2 i3
          refine ⟨j1, ⟨Int.le_trans (show st ≤ st + 1 by omega) j2.1, j2.2⟩, j3, j4, fun ht => ?_⟩
          obtain ⟨k1, k2⟩ := j5 ht
          obtain ⟨k3, k4⟩ := i5 ht
          exact ⟨k1.trans k3, k2.trans k4⟩
section CPL
variable {L : Nat} {xs : Nat → Int32} {S : ty_S} {B F E : ai_A} {n : Nat} {G : mo_G} {made ns st : Int} {sl : Int → Int}
/-- what it comes to -/
def cp_un (S : ty_S) (B F E : ai_A) (n : Nat) (G : mo_G) (made ns : Int) (sl : Int → Int) (tr fl : Bool) (r : Int × Int × (Int → Int) × (Int → List Int) × List Int × Bool) : ai_O → ty_S → Prop := fun o S' => (cp_fm S S' B F E ∧ (tr = true → cp_tr S S' F E)) ∧
  ((r.1 = 1 ∧ o = .inl (some (.inl (ty_J 1))) ∧ cp_R S' B F E n G made ns sl r.2.1 r.2.1 ([], r.2.2) ∧ cp_ud S S' B F E ∧ S'.2.2.2.2.2.2.2 = S.2.2.2.2.2.2.2 ∧ (r.2.2.2.2.2 = true ↔ fl = true ∨ S.1 (13, 0) 7 < S'.1 (13, 0) 7)) ∨
   (r.1 = 0 ∧ o = .inl (some (.inl (ty_J 0))) ∧ (∃ ps, cp_R S' B F E n G made ns sl r.2.1 r.2.1 (ps, r.2.2)) ∧ cp_ud S S' B F E ∧ S'.2.2.2.2.2.2.2 = S.2.2.2.2.2.2.2) ∨
   (r.1 = 2 ∧ o = .inr 1 ∧ S'.2.2.2.2.2.2.2 = (S.2.2.2.2.2.2.2.1 + 1, S.2.2.2.2.2.2.2.2 + 6)))
theorem cp_R_pop {p : Int × Int} {ps : List (Int × Int)} {v : (Int → Int) × (Int → List Int) × List Int × Bool} {k : Int} (hR : cp_R S B F E n G made ns sl st k (p :: ps, v)) (hst : st < 500) :
    cp_R (ty_sI (ty_sI S (37, 0) 0 (st + 1)) (38, 0) 5 (S.1 (38, 0) 5 - 1)) B F E n G made ns sl (st + 1) k (ps, v) ∧ cp_fm S (ty_sI (ty_sI S (37, 0) 0 (st + 1)) (38, 0) 5 (S.1 (38, 0) 5 - 1)) B F E ∧ cp_ud S (ty_sI (ty_sI S (37, 0) 0 (st + 1)) (38, 0) 5 (S.1 (38, 0) 5 - 1)) B F E := by
  obtain ⟨r1, r2, r3, r4, r5, r6, r7, r8, r9, r10, r11, r12⟩ := hR
  generalize hT : ty_sI (ty_sI S (37, 0) 0 (st + 1)) (38, 0) 5 (S.1 (38, 0) 5 - 1) = T
  have e2 : T.2 = S.2 := by rw [← hT]; rfl
  have i1 : ∀ b j, ¬ (b = (38, 0) ∧ j = 5) → ¬ (b = (37, 0) ∧ j = 0) → T.1 b j = S.1 b j := fun b j h h2 => by
    rw [← hT, ty_sI_ne h, ty_sI_ne h2]
  have i2 : T.1 (38, 0) 5 = S.1 (38, 0) 5 - 1 := by rw [← hT]; exact ty_sI_at
  have i3 : T.1 (37, 0) 0 = st + 1 := by rw [← hT, ty_sI_ne (by decide)]; exact ty_sI_at
  refine ⟨⟨?_, ?_, ?_, ?_, ?_, ?_, ?_, ?_, ?_, ?_, ?_, r12⟩, ⟨fun b j h1 h2 h3 => i1 b j (fun z => h2 z.1) (fun z => h1 z.1), by rw [e2], fun b _ _ _ _ _ _ _ _ _ _ => by rw [e2], by rw [e2], by rw [e2], by rw [e2], by rw [e2]⟩, ?_⟩
  · unfold ty_st; rw [e2]; exact r1
  · unfold cv_sh; rw [e2]; exact r2
  · unfold cv_g; rw [e2]; exact r3
  · rw [i1 _ _ (by decide) (by decide)]; exact r4
  · rw [i3]; exact ⟨rfl, by omega, by omega⟩
  · rw [e2, i2]; exact r6.2.2.2
  · rw [e2, i1 _ _ (by decide) (by decide)]; exact r7
  · rw [e2]; exact r8
  · rw [e2]; exact r9
  · rw [e2, i1 _ _ (by decide) (by decide)]; exact r10
  · rw [e2, i1 _ _ (by decide) (by decide)]; exact r11
  · refine ⟨by rw [i1 _ _ (by decide) (by decide)]; omega, by rw [i1 _ _ (by decide) (by decide)]; omega, fun q _ _ => ?_, fun q _ _ => ?_⟩
    · rw [e2, i1 _ _ (by decide) (by decide)]
    · rw [e2, i1 _ _ (by decide) (by decide)]
theorem cp_fm.sI {a : ai_A} {v : Int} (h : cp_fm S (ty_th S) B F E) : True := trivial
theorem cp_fm_th {S1 : ty_S} (h : cp_fm S S1 B F E) : cp_fm S (ty_th S1) B F E := h
theorem cp_loop (d : Nat) (hw : mo_wf G) (hmade : made ≤ 100000) {dn : List Int} (tr : Bool) {tb : Int} (htb : tb = if tr = true then 1 else 0) : ∀ (m : Nat) (S : ty_S) (st i : Int) (ps : List (Int × Int)) (bd : Int → Int) (ch : Int → List Int) (wk : List Int) (fl : Bool), m = (501 - st).toNat → 0 ≤ i → i ≤ st → ps.length ≤ 3 + 2 * st.toNat → cp_R S B F E n G made ns sl st st (ps, bd, ch, wk, fl) → mo_po G made ps → mo_bw G made bd → mo_cw made ns bd ch (dn ++ wk) →
    ty_W L xs (d + 3) 85 2 [some (.inr (.inr (some (38, 0)))), some (.inl (ty_J tb)), some (.inl (ty_J i))] [] S (cp_un S B F E n G made ns sl tr fl (mo_un G tr m st (ps, bd, ch, wk, fl))) := by
  intro m
  induction m with
  | zero =>
    intro S st i ps bd ch wk fl hm _ _ _ hR
    have := hR.2.2.2.2.1
    omega
  | succ m ih =>
    intro S st i ps bd ch wk fl hm h0 h1 hlen hR hp hb hcw
    have hR0 := hR
    obtain ⟨hS, hV, hG, r4, r5, r6, r7, r8, r9, r10, r11, r12⟩ := hR
    have hol := mo_stk_len r6
    have hol : S.1 (38, 0) 5 = ps.length := hol
    refine ty_iload_n (pc := 2) (i := 2) (ks := []) (by decide +kernel) rfl ?_
    refine ty_sipush (pc := 3) (n := 500) (ks := []) (by decide +kernel) (by omega) ?_
    -- at 6: .if_icmp .gt 75
    refine ty_icmp_gt (pc := 6) (off := 75) (t := 81) (ks := []) (by decide +kernel) (by omega) (by omega) (fun hc => ?_) (fun hc => ?_)
    · omega
    · refine ty_aload_n (pc := 9) (i := 0) (ks := []) (by decide +kernel) rfl ?_
      refine ty_getI (pc := 10) (idx := 18) (ci := 8) (f := 5) (by decide +kernel) (by first | rfl | assumption) rfl (by first | exact hS.1 _ _ rfl | assumption) (fun v hv => ?_)
      subst hv
      -- at 13: .ifCond .le 68
      cases ps with
      | nil =>
        have hol : S.1 (38, 0) 5 = 0 := hol
        refine ty_if_le (pc := 13) (off := 68) (t := 81) (ks := []) (by decide +kernel) (by omega) (fun hc => ?_) (fun hc => ?_)
        · refine ty_iconst (pc := 81) (n := 1) (ks := []) (by decide +kernel) ?_
          -- at 82: .ireturn
          refine ty_ret_i (pc := 82) (ks := []) (ty := .boolean) (by decide +kernel) rfl (ty_fit_z (by omega)) ?_
          exact ⟨⟨cp_fm.refl, fun _ => cp_tr.refl⟩, .inl ⟨rfl, rfl, hR0, cp_ud.refl, rfl, cp_fl0 rfl⟩⟩
        · omega
      | cons p ps =>
        simp only [List.length_cons] at hol hlen
        have hpp := hp p List.mem_cons_self
        unfold mo_un
        refine ty_if_le (pc := 13) (off := 68) (t := 81) (ks := []) (by decide +kernel) (by omega) (fun hc => ?_) (fun hc => ?_)
        · omega
        · refine ty_aload_n (pc := 16) (i := 0) (ks := []) (by decide +kernel) rfl ?_
          refine ty_getS (b := (37, 0)) (pc := 17) (idx := 36) (ci := 8) (f := 2) (by decide +kernel) (by first | rfl | assumption) rfl (by first | exact hS.1 _ _ rfl | assumption) (by first | exact hS.2.2 _ _ _ _ rfl | assumption) ?_
          -- at 20: .invokevirtual 54
          refine ty_callv (pc := 20) (idx := 54) (m := 63) (n := 1) (c := 7) (vs := []) (r := []) (by decide +kernel) rfl rfl (Nat.le_of_ble_eq_true rfl) (by first | rfl | assumption) (by first | exact hS.1 _ _ rfl | assumption) (ct_takeOne (d + 2) hS r5.1 (by omega)) ?_
          rintro _ S1 (⟨rfl, hlt, e1⟩ | ⟨x, rfl, hge, rfl, rfl⟩)
          · rw [if_neg (by omega)]
            subst e1
            refine ty_KV ?_
            obtain ⟨q1, q2, q3⟩ := cp_R_pop hR0 hlt
            have hop : (ty_sI S (37, 0) 0 (st + 1)).1 (38, 0) 5 = S.1 (38, 0) 5 := ty_sI_ne (by decide)
            refine ty_aload_n (pc := 23) (i := 0) (ks := []) (by decide +kernel) rfl ?_
            refine ty_dup (pc := 24) (ks := []) (by decide +kernel) rfl ?_
            refine ty_getI (pc := 25) (idx := 18) (ci := 8) (f := 5) (by decide +kernel) (by first | rfl | assumption) rfl (by first | exact hS.1 _ _ rfl | assumption) (fun v hv => ?_)
            subst hv
            refine ty_iconst (pc := 28) (n := 1) (ks := []) (by decide +kernel) ?_
            refine ty_isub (pc := 29) (ks := []) (by decide +kernel) ?_
            -- at 30: .putfield 18
            rw [hop]
            refine ty_putI (pc := 30) (idx := 18) (ci := 8) (f := 5) (by decide +kernel) (by first | rfl | assumption) rfl rfl (by first | exact hS.1 _ _ rfl | assumption) ?_
            -- at 33: .aload_n 0
            have q1' := q1
            obtain ⟨t1, t2, t3, t4, t5, t6, t7, t8, t9, t10, t11, t12⟩ := q1
            generalize hT : ty_sI (ty_sI S (37, 0) 0 (st + 1)) (38, 0) 5 (S.1 (38, 0) 5 - 1) = T at q1' q2 q3 t1 t2 t3 t4 t5 t6 t7 t8 t9 t10 t11
            have hTo : T.1 (38, 0) 5 = ps.length := by
              rw [← hT, ty_sI_at]
              omega
            have hTA : T.2.2.1 = S.2.2.1 := by rw [← hT]; rfl
            have hnc : T.2.2.2.2.2.2.2 = S.2.2.2.2.2.2.2 := by rw [← hT]; rfl
            have q4 : cp_tr S T F E := by
              refine ⟨by rw [hTA], by rw [hTA], by rw [hTA], by rw [hTA], by rw [hTA], by rw [hTA], ?_, ?_⟩
              · rw [← hT, ty_sI_ne (by decide), ty_sI_ne (by decide)]
              · rw [← hT, ty_sI_ne (by decide), ty_sI_ne (by decide)]
            have t8' : ∀ v, 0 ≤ v → v < made → T.2.2.1 B v = bd v := t8.1
            have hbT : mo_bw G made (T.2.2.1 B) := fun v a b => by rw [t8' v a b]; exact hb v a b
            have hvv : ∀ t, mo_ok G made t → mo_val G (T.2.2.1 B) t = mo_val G bd t := by
              intro t ht
              unfold mo_val
              by_cases e : t < 0
              · have := ht.1; omega
              · rw [if_neg e, if_neg e]
                by_cases e2 : 65 ≤ mo_l G t ∧ mo_l G t ≤ 90
                · rw [if_pos e2, if_pos e2]
                  obtain ⟨y1, y2⟩ := mo_ok_var hw ht e2
                  have : ∀ (q : Nat) (v : Int), v.toNat < q → 0 ≤ v → v < made → mo_dv (T.2.2.1 B) v = mo_dv bd v := by
                    intro q
                    induction q with
                    | zero => intro v h; omega
                    | succ q ihq =>
                      intro v h5 h6 h7
                      rw [mo_dv_step hbT h6 h7, mo_dv_step hb h6 h7, t8' v h6 h7]
                      by_cases e5 : bd v = mo_F
                      · rw [if_pos e5, if_pos e5]
                      · rw [if_neg e5, if_neg e5]
                        by_cases e6 : 0 ≤ bd v
                        · rw [if_pos e6, if_pos e6]
                        · rw [if_neg e6, if_neg e6]
                          rcases hb v h6 h7 with z | z | z
                          · exact absurd z e5
                          · exact absurd z.1 e6
                          · exact ihq _ (by omega) z.2.1 (by omega)
                  exact this _ _ (Nat.lt_succ_self _) y1 y2
                · rw [if_neg e2, if_neg e2]
            have hS1 := t1
            have hLl : T.2.2.1 (40, 0) (ps.length : Int) = p.1 := by
              rw [hTA]
              have := r6.2.1
              rw [hol, show ((ps.length + 1 : Nat) : Int) - 1 = ps.length by omega] at this
              exact this
            have hRr : T.2.2.1 (41, 0) (ps.length : Int) = p.2 := by
              rw [hTA]
              have := r6.2.2.1
              rw [hol, show ((ps.length + 1 : Nat) : Int) - 1 = ps.length by omega] at this
              exact this
            have v1 := mo_val_isval hw hb (.inl hpp.1)
            have v2 := mo_val_isval hw hb (.inl hpp.2)
            have hS := t1
            refine ty_aload_n (pc := 33) (i := 0) (ks := []) (by decide +kernel) rfl ?_
            refine ty_aload_n (pc := 34) (i := 0) (ks := []) (by decide +kernel) rfl ?_
            refine ty_getS (b := (13, 0)) (pc := 35) (idx := 32) (ci := 8) (f := 1) (by decide +kernel) (by first | rfl | assumption) rfl (by first | exact hS.1 _ _ rfl | assumption) (by first | exact hS.2.2 _ _ _ _ rfl | assumption) ?_
            refine ty_aload_n (pc := 38) (i := 0) (ks := []) (by decide +kernel) rfl ?_
            refine ty_getS (b := (40, 0)) (pc := 39) (idx := 11) (ci := 8) (f := 3) (by decide +kernel) (by first | rfl | assumption) rfl (by first | exact hS.1 _ _ rfl | assumption) (by first | exact hS.2.2 _ _ _ _ rfl | assumption) ?_
            refine ty_aload_n (pc := 42) (i := 0) (ks := []) (by decide +kernel) rfl ?_
            refine ty_getI (pc := 43) (idx := 18) (ci := 8) (f := 5) (by decide +kernel) (by first | rfl | assumption) rfl (by first | exact hS.1 _ _ rfl | assumption) (fun v hv => ?_)
            subst hv
            -- at 46: .iaload
            rw [hTo]
            refine ty_iaload (pc := 46) (ks := []) (by decide +kernel) (by rfl) (by rfl) (hS.1 _ _ rfl) (hS.2.1 _ _ _ rfl) (by omega) (fun v hv => ?_)
            rw [hLl] at hv
            subst hv
            refine ty_callv (pc := 47) (idx := 59) (m := 75) (n := 2) (c := 2) (vs := [_]) (r := [_]) (by decide +kernel) rfl rfl (Nat.le_of_ble_eq_true rfl) (by first | rfl | assumption) (by first | exact hS.1 _ _ rfl | assumption) (cv_valueOf (d + 1) hS t2 t3 hw t4.1 ⟨t4.2.1, t4.2.2⟩ hbT (.inl hpp.1)) ?_
            rintro _ S3 ⟨z, rfl, rfl, rfl⟩
            rw [hvv _ hpp.1]
            refine ty_KI ?_
            refine ty_aload_n (pc := 50) (i := 0) (ks := []) (by decide +kernel) rfl ?_
            refine ty_getS (b := (13, 0)) (pc := 51) (idx := 32) (ci := 8) (f := 1) (by decide +kernel) (by first | rfl | assumption) rfl (by first | exact hS.1 _ _ rfl | assumption) (by first | exact hS.2.2 _ _ _ _ rfl | assumption) ?_
            refine ty_aload_n (pc := 54) (i := 0) (ks := []) (by decide +kernel) rfl ?_
            refine ty_getS (b := (41, 0)) (pc := 55) (idx := 15) (ci := 8) (f := 4) (by decide +kernel) (by first | rfl | assumption) rfl (by first | exact hS.1 _ _ rfl | assumption) (by first | exact hS.2.2 _ _ _ _ rfl | assumption) ?_
            refine ty_aload_n (pc := 58) (i := 0) (ks := []) (by decide +kernel) rfl ?_
            refine ty_getI (pc := 59) (idx := 18) (ci := 8) (f := 5) (by decide +kernel) (by first | rfl | assumption) rfl (by first | exact hS.1 _ _ rfl | assumption) (fun v hv => ?_)
            subst hv
            -- at 62: .iaload
            rw [hTo]
            refine ty_iaload (pc := 62) (ks := []) (by decide +kernel) (by rfl) (by rfl) (hS.1 _ _ rfl) (hS.2.1 _ _ _ rfl) (by omega) (fun v hv => ?_)
            rw [hRr] at hv
            subst hv
            refine ty_callv (pc := 63) (idx := 59) (m := 75) (n := 2) (c := 2) (vs := [_]) (r := [_, _]) (by decide +kernel) rfl rfl (Nat.le_of_ble_eq_true rfl) (by first | rfl | assumption) (by first | exact hS.1 _ _ rfl | assumption) (cv_valueOf (d + 1) hS t2 t3 hw t4.1 ⟨t4.2.1, t4.2.2⟩ hbT (.inl hpp.2)) ?_
            rintro _ S4 ⟨z, rfl, rfl, rfl⟩
            rw [hvv _ hpp.2]
            refine ty_KI ?_
            refine ty_iload_n (pc := 66) (i := 1) (ks := []) (by decide +kernel) rfl ?_
            -- at 67: .invokevirtual 64
            have hR9 : cp_R S4 B F E n G made ns sl (st + 1) (st + 1 - 1) (ps, bd, ch, wk, fl) := by
              rw [show st + 1 - 1 = st by omega]
              exact q1'
            refine ty_callv (pc := 67) (idx := 64) (m := 86) (n := 4) (c := 8) (vs := [_, _, _]) (r := []) (by decide +kernel) rfl rfl (Nat.le_of_ble_eq_true rfl) (by first | rfl | assumption) (by first | exact hS.1 _ _ rfl | assumption) (cp_makePairSame (d + 0) hR9 hw v1 v2 hb hcw (by omega) tr htb) ?_
            rintro _ S5 ⟨z, rfl, hq⟩
            refine ty_KI ?_
            cases hu : mo_u1 G tr (mo_val G bd p.1) (mo_val G bd p.2) ps bd ch wk fl with
            | none =>
              rw [hu] at hq
              obtain ⟨rfl, rfl⟩ := hq
              refine ty_if_ne (pc := 70) (off := 5) (t := 75) (ks := []) (by decide +kernel) (by omega) (fun hc => ?_) (fun hc => ?_)
              · exact absurd rfl hc
              · refine ty_iconst (pc := 73) (n := 0) (ks := []) (by decide +kernel) ?_
                -- at 74: .ireturn
                refine ty_ret_i (pc := 74) (ks := []) (ty := .boolean) (by decide +kernel) rfl (ty_fit_z (by omega)) ?_
                exact ⟨⟨q2, fun _ => q4⟩, .inr (.inl ⟨rfl, rfl, ⟨ps, cp_R_le q1' (by show st ≤ st + 1; omega)⟩, q3, hnc⟩)⟩
            | some u =>
              rw [hu] at hq
              obtain ⟨ps', bd', ch', wk', fl'⟩ := u
              obtain ⟨rfl, w1, w2, w3, w4, w5, w6⟩ := hq
              obtain ⟨i1, i2, i3, i4, i5⟩ := mo_u1_inv hw hmade hu v1 v2 hb hcw (fun q hq => hp q (List.mem_cons_of_mem _ hq))
              refine ty_if_ne (pc := 70) (off := 5) (t := 75) (ks := []) (by decide +kernel) (by omega) (fun hc => ?_) (fun hc => ?_)
              · refine ty_iinc (pc := 75) (i := 2) (n := 1) (ks := []) (ls' := [_, _, _]) (by decide +kernel) rfl rfl ?_
                refine ty_goto (pc := 78) (off := (-76)) (t := 2) (ks := []) (by decide +kernel) ?_
                -- at 2: .iload_n 2
                have i4 : ps'.length ≤ ps.length + 3 := i4
                refine (ih S5 (st + 1) (i + 1) ps' bd' ch' wk' fl' (by omega) (by omega) (by omega) (by omega) w1 i1 i2 i3).mono ?_
                rintro o S' ⟨⟨a1, a9⟩, a2⟩
                refine ⟨⟨(q2.trans w2).trans a1, fun ht => (q4.trans (w6 ht)).trans (a9 ht)⟩, ?_⟩
                rcases a2 with ⟨b1, b2, b3, b4, b5, b6⟩ | ⟨b1, b2, b3, b4, b5⟩ | ⟨b1, b2, b3⟩
                · refine .inl ⟨b1, b2, b3, (q3.trans w3).trans b4, b5.trans (w4.trans hnc), ?_⟩
                  refine b6.trans ?_
                  have w5 : fl' = true ↔ fl = true ∨ S4.1 (13, 0) 7 < S5.1 (13, 0) 7 := w5
                  rw [w5]
                  have y1 : S4.1 (13, 0) 7 = S.1 (13, 0) 7 := by
                    rw [← hT, ty_sI_ne (by decide), ty_sI_ne (by decide)]
                  have y2 := w3.1
                  have y3 := b4.1
                  rw [← y1]
                  constructor
                  · rintro ((z | z) | z)
                    · exact .inl z
                    · exact .inr (by omega)
                    · exact .inr (by omega)
                  · rintro (z | z)
                    · exact .inl (.inl z)
                    · by_cases y4 : S4.1 (13, 0) 7 < S5.1 (13, 0) 7
                      · exact .inl (.inr y4)
                      · exact .inr (by omega)
                · exact .inr (.inl ⟨b1, b2, b3, (q3.trans w3).trans b4, b5.trans (w4.trans hnc)⟩)
                · exact .inr (.inr ⟨b1, b2, by rw [b3, w4, hnc]⟩)
              · exact absurd hc (by decide)
          · rw [if_pos hge]
            refine ty_KX (by decide +kernel) ?_
            exact ⟨⟨cp_fm.refl, fun _ => cp_tr.refl⟩, .inr (.inr ⟨rfl, rfl, rfl⟩)⟩
theorem cp_makeSame (d : Nat) (hw : mo_wf G) (hmade : made ≤ 100000) {dn : List Int} (tr : Bool) {tb : Int} (htb : tb = if tr = true then 1 else 0) {ps : List (Int × Int)} {bd : Int → Int} {ch : Int → List Int} {wk : List Int} {fl : Bool} (hlen : ps.length ≤ 3) (hR : cp_R S B F E n G made ns sl st st (ps, bd, ch, wk, fl)) (hp : mo_po G made ps) (hb : mo_bw G made bd) (hc : mo_cw made ns bd ch (dn ++ wk)) :
    ty_C L xs (d + 4) 85 [.inr (.inr (some (38, 0))), .inl (ty_J tb)] S (cp_un S B F E n G made ns sl tr fl (mo_ur G tr st (ps, bd, ch, wk, fl))) := by
  refine ty_enter (ml := 3) (ls := [_, _, _]) rfl rfl (Nat.le_of_ble_eq_true rfl) ?_
  refine ty_iconst (pc := 0) (n := 0) (ks := []) (by decide +kernel) ?_
  refine ty_istore_n (pc := 1) (i := 2) (ks := []) (ls' := [_, _, _]) (by decide +kernel) rfl ?_
  -- at 2: .iload_n 2
  exact cp_loop d hw hmade tr htb _ S st 0 ps bd ch wk fl rfl (by omega) hR.2.2.2.2.1.2.1 (by omega) hR hp hb hc
end CPL
