/-! MAKING TERMS SAME: the class does as the mathematics. -/
section CPM
variable {L : Nat} {xs : Nat → Int32} {S : ty_S} {B F E : ai_A} {n : Nat} {G : mo_G} {made ns st : Int} {sl : Int → Int}
/-- a try leaves the sleepers' rows alone -/
def cp_tr (S S' : ty_S) (F E : ai_A) : Prop := S'.2.2.1 F = S.2.2.1 F ∧ S'.2.2.1 E = S.2.2.1 E ∧ S'.2.2.1 (28, 0) = S.2.2.1 (28, 0) ∧ S'.2.2.1 (29, 0) = S.2.2.1 (29, 0) ∧ S'.2.2.1 (30, 0) = S.2.2.1 (30, 0) ∧ S'.2.2.1 (42, 0) = S.2.2.1 (42, 0) ∧ S'.1 (13, 0) 13 = S.1 (13, 0) 13 ∧ S'.1 (38, 0) 7 = S.1 (38, 0) 7
theorem cp_tr.refl : cp_tr S S F E := ⟨rfl, rfl, rfl, rfl, rfl, rfl, rfl, rfl⟩
theorem cp_tr.trans {S1 S2 : ty_S} (h : cp_tr S S1 F E) (g : cp_tr S1 S2 F E) : cp_tr S S2 F E :=
  ⟨g.1.trans h.1, g.2.1.trans h.2.1, g.2.2.1.trans h.2.2.1, g.2.2.2.1.trans h.2.2.2.1, g.2.2.2.2.1.trans h.2.2.2.2.1, g.2.2.2.2.2.1.trans h.2.2.2.2.2.1, g.2.2.2.2.2.2.1.trans h.2.2.2.2.2.2.1, g.2.2.2.2.2.2.2.trans h.2.2.2.2.2.2.2⟩
theorem cp_tr_s (hV : cv_sh S B F E n) {l r : Int → Int} {o : Int} : cp_tr S (cp_s S l r o) F E := by
  have n1 := (cv_ne hV (s := 40) (i := 0) (by decide)).1
  have n2 := (cv_ne hV (s := 41) (i := 0) (by decide)).1
  have a6 : ∀ b, ¬ b = (40, 0) → ¬ b = (41, 0) → (cp_s S l r o).2.2.1 b = S.2.2.1 b := fun b h1 h2 => by
    show (ty_mA (ty_mA S (40, 0) l) (41, 0) r).2.2.1 b = S.2.2.1 b
    rw [ty_mA_ne h2, ty_mA_ne h1]
  exact ⟨a6 _ n1.2.1 n2.2.1, a6 _ n1.2.2 n2.2.2, a6 _ (by decide) (by decide), a6 _ (by decide) (by decide), a6 _ (by decide) (by decide), a6 _ (by decide) (by decide), ty_sI_ne (by decide), ty_sI_ne (by decide)⟩
theorem cp_tr_b (hV : cv_sh S B F E n) {v t : Int} : cp_tr S (cp_b S B v t) F E := by
  obtain ⟨a1, a2, a3⟩ := cp_b_A hV (v := v) (t := t)
  have m := hV.2.2.2.2.1
  have n26 := (cv_ne hV (s := 26) (i := 0) (by decide)).1
  exact ⟨a3 F (fun z => m.1 z.symm) n26.2.1, a3 E (fun z => m.2.1 z.symm) n26.2.2, a3 _ (cv_ne hV (by decide)).2.1 (by decide), a3 _ (cv_ne hV (by decide)).2.1 (by decide), a3 _ (cv_ne hV (by decide)).2.1 (by decide), a3 _ (cv_ne hV (by decide)).2.1 (by decide), ty_sI_ne (by decide), ty_sI_ne (by decide)⟩
/-- what one pair comes to -/
def cp_1 (S : ty_S) (B F E : ai_A) (n : Nat) (G : mo_G) (made ns : Int) (sl : Int → Int) (st : Int) (tr fl : Bool) (q : Option mo_U) (z : Int) (S' : ty_S) : Prop := match q with
  | none => z = 0 ∧ S' = S
  | some u => z = 1 ∧ cp_R S' B F E n G made ns sl st st u ∧ cp_fm S S' B F E ∧ cp_ud S S' B F E ∧ S'.2.2.2.2.2.2.2 = S.2.2.2.2.2.2.2 ∧ (u.2.2.2.2 = true ↔ fl = true ∨ S.1 (13, 0) 7 < S'.1 (13, 0) 7) ∧ (tr = true → cp_tr S S' F E)
theorem cp_fl0 {S' : ty_S} {fl : Bool} (h : S'.1 (13, 0) 7 = S.1 (13, 0) 7) : (fl = true ↔ fl = true ∨ S.1 (13, 0) 7 < S'.1 (13, 0) 7) := by
  rw [h]
  exact ⟨.inl, fun z => z.elim id (fun w => absurd w (by omega))⟩
theorem cp_fl1 {S' : ty_S} {fl : Bool} (h : S'.1 (13, 0) 7 = S.1 (13, 0) 7 + 1) : (true = true ↔ fl = true ∨ S.1 (13, 0) 7 < S'.1 (13, 0) 7) := by
  rw [h]
  exact ⟨fun _ => .inr (by omega), fun _ => rfl⟩
theorem cp_makePairSame (d : Nat) {ps : List (Int × Int)} {bd : Int → Int} {ch : Int → List Int} {wk dn : List Int} {fl : Bool} (hR : cp_R S B F E n G made ns sl st (st - 1) (ps, bd, ch, wk, fl)) (hw : mo_wf G) {x y : Int} (hx : mo_isval G made bd x) (hy : mo_isval G made bd y) (hb : mo_bw G made bd) (hcw : mo_cw made ns bd ch (dn ++ wk)) (hl : ps.length ≤ 1000) (tr : Bool) {tb : Int} (htb : tb = if tr = true then 1 else 0) :
    ty_C L xs (d + 3) 86 [.inr (.inr (some (38, 0))), .inl (ty_J x), .inl (ty_J y), .inl (ty_J tb)] S (ty_oI (cp_1 S B F E n G made ns sl st tr fl (mo_u1 G tr x y ps bd ch wk fl))) := by
  have hR0 := hR
  obtain ⟨hS, hV, hG, r4, r5, r6, r7, r8, r9, r10, r11, r12⟩ := hR
  have r8 : cv_rv (S.2.2.1 B) (S.2.2.1 F) (S.2.2.1 E) (S.2.2.1 (28, 0)) made bd ch := r8
  have r7 : S.1 (38, 0) 7 = wk.length ∧ mo_at (S.2.2.1 (42, 0)) 0 (wk.map sl) := r7
  have hn := hV.2.2.2.2.2.2
  have hxr : -100000 ≤ x ∧ x ≤ 100000 * 624 + 623 := by
    rcases hx with z | z
    · omega
    · have := mo_ok_le hw z.2.1
      omega
  have hyr : -100000 ≤ y ∧ y ≤ 100000 * 624 + 623 := by
    rcases hy with z | z
    · omega
    · have := mo_ok_le hw z.2.1
      omega
  have hwn : mo_cw made ns bd ch (dn ++ wk) := hcw
  have htr : tb = 0 ∨ tb = 1 := by cases tr <;> simp [htb]
  refine ty_enter (ml := 6) (ls := [_, _, _, _, _, _]) rfl rfl (Nat.le_of_ble_eq_true rfl) ?_
  -- both are terms
  by_cases hxy : 0 ≤ x ∧ 0 ≤ y
  · have hox : mo_ok G made x := by
      rcases hx with z | z
      · omega
      · exact z.2.1
    have hoy : mo_ok G made y := by
      rcases hy with z | z
      · omega
      · exact z.2.1
    have hlx : S.2.2.1 (19, 0) (x % 624) = mo_l G x := by rw [hG.1]; rfl
    have hly : S.2.2.1 (19, 0) (y % 624) = mo_l G y := by rw [hG.1]; rfl
    have hax : S.2.2.1 (20, 0) (x % 624) = mo_a G x := by rw [hG.2.1]; rfl
    have hay : S.2.2.1 (20, 0) (y % 624) = mo_a G y := by rw [hG.2.1]; rfl
    have l1 : 0 ≤ mo_l G x ∧ mo_l G x ≤ 65535 := (hw _ hox.2.1).2.1
    have l2 : 0 ≤ mo_l G y ∧ mo_l G y ≤ 65535 := (hw _ hoy.2.1).2.1
    have l3 : 0 ≤ mo_a G x ∧ mo_a G x ≤ 3 := (hw _ hox.2.1).2.2.1
    have l4 : 0 ≤ mo_a G y ∧ mo_a G y ≤ 3 := (hw _ hoy.2.1).2.2.1
    unfold mo_u1
    rw [if_pos hxy]
    refine ty_iload_n (pc := 0) (i := 1) (ks := []) (by decide +kernel) rfl ?_
    -- at 1: .ifCond .lt 56
    refine ty_if_lt (pc := 1) (off := 56) (t := 57) (ks := []) (by decide +kernel) (by omega) (fun hc => ?_) (fun hc => ?_)
    · omega
    · refine ty_iload_n (pc := 4) (i := 2) (ks := []) (by decide +kernel) rfl ?_
      -- at 5: .ifCond .lt 52
      refine ty_if_lt (pc := 5) (off := 52) (t := 57) (ks := []) (by decide +kernel) (by omega) (fun hc => ?_) (fun hc => ?_)
      · omega
      · refine ty_aload_n (pc := 8) (i := 0) (ks := []) (by decide +kernel) rfl ?_
        refine ty_getS (b := (12, 0)) (pc := 9) (idx := 28) (ci := 8) (f := 0) (by decide +kernel) (by first | rfl | assumption) rfl (by first | exact hS.1 _ _ rfl | assumption) (by first | exact hS.2.2 _ _ _ _ rfl | assumption) ?_
        refine ty_iload_n (pc := 12) (i := 1) (ks := []) (by decide +kernel) rfl ?_
        -- at 13: .invokevirtual 68
        refine ty_callv (pc := 13) (idx := 68) (m := 66) (n := 2) (c := 1) (vs := [_]) (r := []) (by decide +kernel) rfl rfl (Nat.le_of_ble_eq_true rfl) (by first | rfl | assumption) (by first | exact hS.1 _ _ rfl | assumption) (ct_letterOf _ hS (by omega) (by rw [hlx]; exact l1)) ?_
        rintro _ S1 ⟨z, rfl, rfl, rfl⟩
        rw [hlx]
        refine ty_KI ?_
        refine ty_aload_n (pc := 16) (i := 0) (ks := []) (by decide +kernel) rfl ?_
        refine ty_getS (b := (12, 0)) (pc := 17) (idx := 28) (ci := 8) (f := 0) (by decide +kernel) (by first | rfl | assumption) rfl (by first | exact hS.1 _ _ rfl | assumption) (by first | exact hS.2.2 _ _ _ _ rfl | assumption) ?_
        refine ty_iload_n (pc := 20) (i := 2) (ks := []) (by decide +kernel) rfl ?_
        -- at 21: .invokevirtual 68
        refine ty_callv (pc := 21) (idx := 68) (m := 66) (n := 2) (c := 1) (vs := [_]) (r := [_]) (by decide +kernel) rfl rfl (Nat.le_of_ble_eq_true rfl) (by first | rfl | assumption) (by first | exact hS.1 _ _ rfl | assumption) (ct_letterOf _ hS (by omega) (by rw [hly]; exact l2)) ?_
        rintro _ S2 ⟨z, rfl, rfl, rfl⟩
        rw [hly]
        refine ty_KI ?_
        refine ty_icmp_ne (pc := 24) (off := 22) (t := 46) (ks := []) (by decide +kernel) (by omega) (by omega) (fun hc => ?_) (fun hc => ?_)
        · rw [if_neg (fun z => hc z.1)]
          refine ty_iconst (pc := 46) (n := 0) (ks := []) (by decide +kernel) ?_
          -- at 47: .ireturn
          refine ty_ret_i (pc := 47) (ks := []) (ty := .boolean) (by decide +kernel) rfl (ty_fit_z (by omega)) ?_
          exact ⟨_, rfl, rfl, rfl⟩
        · have hcl := hc
          refine ty_aload_n (pc := 27) (i := 0) (ks := []) (by decide +kernel) rfl ?_
          refine ty_getS (b := (12, 0)) (pc := 28) (idx := 28) (ci := 8) (f := 0) (by decide +kernel) (by first | rfl | assumption) rfl (by first | exact hS.1 _ _ rfl | assumption) (by first | exact hS.2.2 _ _ _ _ rfl | assumption) ?_
          refine ty_iload_n (pc := 31) (i := 1) (ks := []) (by decide +kernel) rfl ?_
          -- at 32: .invokevirtual 40
          refine ty_callv (pc := 32) (idx := 40) (m := 67) (n := 2) (c := 1) (vs := [_]) (r := []) (by decide +kernel) rfl rfl (Nat.le_of_ble_eq_true rfl) (by first | rfl | assumption) (by first | exact hS.1 _ _ rfl | assumption) (ct_arityOf _ hS (by omega)) ?_
          rintro _ S3 ⟨z, rfl, rfl, rfl⟩
          rw [hax]
          refine ty_KI ?_
          refine ty_aload_n (pc := 35) (i := 0) (ks := []) (by decide +kernel) rfl ?_
          refine ty_getS (b := (12, 0)) (pc := 36) (idx := 28) (ci := 8) (f := 0) (by decide +kernel) (by first | rfl | assumption) rfl (by first | exact hS.1 _ _ rfl | assumption) (by first | exact hS.2.2 _ _ _ _ rfl | assumption) ?_
          refine ty_iload_n (pc := 39) (i := 2) (ks := []) (by decide +kernel) rfl ?_
          -- at 40: .invokevirtual 40
          refine ty_callv (pc := 40) (idx := 40) (m := 67) (n := 2) (c := 1) (vs := [_]) (r := [_]) (by decide +kernel) rfl rfl (Nat.le_of_ble_eq_true rfl) (by first | rfl | assumption) (by first | exact hS.1 _ _ rfl | assumption) (ct_arityOf _ hS (by omega)) ?_
          rintro _ S4 ⟨z, rfl, rfl, rfl⟩
          rw [hay]
          refine ty_KI ?_
          refine ty_icmp_eq (pc := 43) (off := 5) (t := 48) (ks := []) (by decide +kernel) (by omega) (by omega) (fun hc => ?_) (fun hc => ?_)
          · rw [if_pos ⟨hcl, hc⟩]
            refine ty_aload_n (pc := 48) (i := 0) (ks := []) (by decide +kernel) rfl ?_
            refine ty_iload_n (pc := 49) (i := 1) (ks := []) (by decide +kernel) rfl ?_
            refine ty_iload_n (pc := 50) (i := 2) (ks := []) (by decide +kernel) rfl ?_
            -- at 51: .invokevirtual 72
            refine ty_callv (pc := 51) (idx := 72) (m := 71) (n := 3) (c := 8) (vs := [_, _]) (r := []) (by decide +kernel) rfl rfl (Nat.le_of_ble_eq_true rfl) (by first | rfl | assumption) (by first | exact hS.1 _ _ rfl | assumption) (cp_putArguments d hS hG hw hox hoy hc.symm (by omega) r6 hl) ?_
            rintro _ S5 ⟨rfl, l, r, o, rfl, hst⟩
            refine ty_KV ?_
            refine ty_goto (pc := 54) (off := 139) (t := 193) (ks := []) (by decide +kernel) ?_
            refine ty_iconst (pc := 193) (n := 1) (ks := []) (by decide +kernel) ?_
            -- at 194: .ireturn
            refine ty_ret_i (pc := 194) (ks := []) (ty := .boolean) (by decide +kernel) rfl (ty_fit_z (by omega)) ?_
            obtain ⟨q1, q2, q3⟩ := cp_R_stk hR0 hst
            exact ⟨_, rfl, rfl, cp_R_le q1 (by omega), q2, q3, rfl, cp_fl0 (ty_sI_ne (by decide)), fun _ => cp_tr_s hV⟩
          · rw [if_neg (fun z => hc z.2)]
            refine ty_iconst (pc := 46) (n := 0) (ks := []) (by decide +kernel) ?_
            -- at 47: .ireturn
            refine ty_ret_i (pc := 47) (ks := []) (ty := .boolean) (by decide +kernel) rfl (ty_fit_z (by omega)) ?_
            exact ⟨_, rfl, rfl, rfl⟩
  · have to57 : ∀ Q, ty_W L xs (d + 2) 86 57 [some (.inr (.inr (some (38, 0)))), some (.inl (ty_J x)), some (.inl (ty_J y)), some (.inl (ty_J tb)), none, none] [] S Q → ty_W L xs (d + 2) 86 0 [some (.inr (.inr (some (38, 0)))), some (.inl (ty_J x)), some (.inl (ty_J y)), some (.inl (ty_J tb)), none, none] [] S Q := by
      intro Q h
      refine ty_iload_n (pc := 0) (i := 1) (ks := []) (by decide +kernel) rfl ?_
      -- at 1: .ifCond .lt 56
      refine ty_if_lt (pc := 1) (off := 56) (t := 57) (ks := []) (by decide +kernel) (by omega) (fun hc => ?_) (fun hc => ?_)
      · exact h
      · refine ty_iload_n (pc := 4) (i := 2) (ks := []) (by decide +kernel) rfl ?_
        -- at 5: .ifCond .lt 52
        refine ty_if_lt (pc := 5) (off := 52) (t := 57) (ks := []) (by decide +kernel) (by omega) (fun hc => ?_) (fun hc => ?_)
        · exact h
        · omega
    refine to57 _ ?_
    unfold mo_u1
    rw [if_neg hxy]
    by_cases hneg : x < 0 ∧ y < 0
    · -- both are free
      rw [if_pos hneg]
      have fx : 0 ≤ -1 - x ∧ -1 - x < made ∧ bd (-1 - x) = mo_F := by
        rcases hx with z | z
        · exact z.2
        · omega
      have fy : 0 ≤ -1 - y ∧ -1 - y < made ∧ bd (-1 - y) = mo_F := by
        rcases hy with z | z
        · exact z.2
        · omega
      refine ty_iload_n (pc := 57) (i := 1) (ks := []) (by decide +kernel) rfl ?_
      -- at 58: .ifCond .ge 92
      refine ty_if_ge (pc := 58) (off := 92) (t := 150) (ks := []) (by decide +kernel) (by omega) (fun hc => ?_) (fun hc => ?_)
      · omega
      · refine ty_iload_n (pc := 61) (i := 2) (ks := []) (by decide +kernel) rfl ?_
        -- at 62: .ifCond .ge 88
        refine ty_if_ge (pc := 62) (off := 88) (t := 150) (ks := []) (by decide +kernel) (by omega) (fun hc => ?_) (fun hc => ?_)
        · omega
        · refine ty_iload_n (pc := 65) (i := 1) (ks := []) (by decide +kernel) rfl ?_
          refine ty_iconst (pc := 66) (n := (-1)) (ks := []) (by decide +kernel) ?_
          refine ty_inot (pc := 67) (ks := []) (by decide +kernel) ?_
          refine ty_iload_n (pc := 68) (i := 2) (ks := []) (by decide +kernel) rfl ?_
          refine ty_iconst (pc := 69) (n := (-1)) (ks := []) (by decide +kernel) ?_
          refine ty_inot (pc := 70) (ks := []) (by decide +kernel) ?_
          refine ty_max (pc := 71) (ins := .invokestatic 75) (ks := []) (by decide +kernel) (by omega) (by omega) (Nat.le_of_ble_eq_true rfl) (fun z hz => ?_)
          -- at 74: .istore 4
          -- the greater, the lesser
          have key : ∀ (hi lo : Int) (u : mo_U), (if -1 - x < -1 - y then -1 - y else -1 - x) = hi → (if -1 - y < -1 - x then -1 - y else -1 - x) = lo → 0 ≤ lo → lo < hi → hi < made → bd lo = mo_F → bd hi = mo_F → u = (ps, mo_up bd hi (-1 - lo), if tr = true then ch else mo_upc ch lo (ch lo ++ ch hi), wk, true) →
              ty_W L xs (d + 2) 86 94 [some (.inr (.inr (some (38, 0)))), some (.inl (ty_J x)), some (.inl (ty_J y)), some (.inl (ty_J tb)), some (.inl (ty_J hi)), some (.inl (ty_J lo))] [] S (ty_oI (cp_1 S B F E n G made ns sl st tr fl (some u))) := by
            rintro hi lo u h1 h2 h3 h4 h5 h6 h7 rfl
            have hnf : (-1 - lo) ≠ mo_F := mo_ne_F (.inl (by omega))
            obtain ⟨q1, q2, q3⟩ := cp_R_bind hR0 (v := hi) (t := -1 - lo) ⟨by omega, h5, h7⟩ hnf true
            refine ty_aload_n (pc := 94) (i := 0) (ks := []) (by decide +kernel) rfl ?_
            refine ty_getS (b := (13, 0)) (pc := 95) (idx := 32) (ci := 8) (f := 1) (by decide +kernel) (by first | rfl | assumption) rfl (by first | exact hS.1 _ _ rfl | assumption) (by first | exact hS.2.2 _ _ _ _ rfl | assumption) ?_
            refine ty_iload (pc := 98) (i := 4) (ks := []) (by decide +kernel) rfl ?_
            refine ty_iload (pc := 100) (i := 5) (ks := []) (by decide +kernel) rfl ?_
            refine ty_iconst (pc := 102) (n := (-1)) (ks := []) (by decide +kernel) ?_
            refine ty_inot (pc := 103) (ks := []) (by decide +kernel) ?_
            -- at 104: .invokevirtual 83
            refine ty_callv (pc := 104) (idx := 83) (m := 87) (n := 3) (c := 2) (vs := [_, _]) (r := []) (by decide +kernel) rfl rfl (Nat.le_of_ble_eq_true rfl) (by first | rfl | assumption) (by first | exact hS.1 _ _ rfl | assumption) (cv_bind (d + 1) hS hV (bc := S.1 (13, 0) 7) (by omega) rfl (by omega)) ?_
            rintro _ S1 ⟨rfl, e1⟩
            have e1 : S1 = cp_b S B hi (-1 - lo) := e1
            rw [e1]
            refine ty_KV ?_
            have hS1 : ty_st (cp_b S B hi (-1 - lo)) := hS
            refine ty_iload (pc := 107) (i := 4) (ks := []) (by decide +kernel) rfl ?_
            refine ty_iload (pc := 109) (i := 5) (ks := []) (by decide +kernel) rfl ?_
            -- at 111: .if_icmp .eq 36
            refine ty_icmp_eq (pc := 111) (off := 36) (t := 147) (ks := []) (by decide +kernel) (by omega) (by omega) (fun hc => ?_) (fun hc => ?_)
            · omega
            · refine ty_iload_n (pc := 114) (i := 3) (ks := []) (by decide +kernel) rfl ?_
              -- at 115: .ifCond .ne 32
              refine ty_if_ne (pc := 115) (off := 32) (t := 147) (ks := []) (by decide +kernel) (by omega) (fun hc => ?_) (fun hc => ?_)
              · have ht : tr = true := by
                  cases tr
                  · simp [htb] at hc
                  · rfl
                refine ty_goto (pc := 147) (off := 46) (t := 193) (ks := []) (by decide +kernel) ?_
                refine ty_iconst (pc := 193) (n := 1) (ks := []) (by decide +kernel) ?_
                -- at 194: .ireturn
                refine ty_ret_i (pc := 194) (ks := []) (ty := .boolean) (by decide +kernel) rfl (ty_fit_z (by omega)) ?_
                rw [if_pos ht]
                exact ⟨_, rfl, rfl, cp_R_le q1 (by omega), q2, q3, rfl, cp_fl1 ty_sI_at, fun _ => cp_tr_b hV⟩
              · have ht : ¬ tr = true := by
                  intro z
                  simp [htb, z] at hc
                have q0 := q1
                obtain ⟨s1, s2, s3, s4, s5, s6, s7, s8, s9, s10, s11, s12⟩ := q1
                obtain ⟨⟨b1, b2, b3⟩, ⟨k1, k2, k3⟩, ⟨p1, p2, p3⟩, ⟨n1, n2, n3⟩, ⟨m1, m2, m3⟩, -, -⟩ := s2
                obtain ⟨a1, a2, a3⟩ := cp_b_A hV (v := hi) (t := -1 - lo)
                have n26 := (cv_ne hV (s := 26) (i := 0) (by decide)).1
                have aF : (cp_b S B hi (-1 - lo)).2.2.1 F = S.2.2.1 F := a3 F (fun z => m1 z.symm) n26.2.1
                have aE : (cp_b S B hi (-1 - lo)).2.2.1 E = S.2.2.1 E := a3 E (fun z => m2 z.symm) n26.2.2
                have aX : (cp_b S B hi (-1 - lo)).2.2.1 (28, 0) = S.2.2.1 (28, 0) := a3 _ (cv_ne hV (by decide)).2.1 (by decide)
                obtain ⟨vlo1, vlo2⟩ := r8.2 lo h3 (by omega) h6
                obtain ⟨vhi1, vhi2⟩ := r8.2 hi (by omega) h5 h7
                obtain ⟨c1, c2, c3⟩ := hcw.1 lo h3 (by omega) h6
                obtain ⟨g1, g2, g3⟩ := hcw.1 hi (by omega) h5 h7
                have bl : -1 ≤ S.2.2.1 E lo ∧ S.2.2.1 E lo < ns := by
                  rw [vlo2]
                  by_cases z : ch lo = []
                  · rw [z]; exact ⟨by decide, by have : mo_last [] = -1 := rfl; omega⟩
                  · have := c1 _ (mo_last_mem z)
                    omega
                have bf : -1 ≤ S.2.2.1 F hi ∧ S.2.2.1 F hi < 500 := by
                  cases hh : ch hi with
                  | nil =>
                    rw [hh] at vhi1
                    have : S.2.2.1 F hi = -1 := vhi1
                    omega
                  | cons e es =>
                    rw [hh] at vhi1
                    have h8 : S.2.2.1 F hi = e := vhi1.1
                    have h9 := g1 e (by rw [hh]; exact List.mem_cons_self)
                    omega
                refine ty_aload_n (pc := 118) (i := 0) (ks := []) (by decide +kernel) rfl ?_
                refine ty_getS (b := (13, 0)) (pc := 119) (idx := 32) (ci := 8) (f := 1) (by decide +kernel) (by first | rfl | assumption) rfl (by first | exact hS.1 _ _ rfl | assumption) (by first | exact hS.2.2 _ _ _ _ rfl | assumption) ?_
                refine ty_iload (pc := 122) (i := 5) (ks := []) (by decide +kernel) rfl ?_
                refine ty_aload_n (pc := 124) (i := 0) (ks := []) (by decide +kernel) rfl ?_
                refine ty_getS (b := (13, 0)) (pc := 125) (idx := 32) (ci := 8) (f := 1) (by decide +kernel) (by first | rfl | assumption) rfl (by first | exact hS.1 _ _ rfl | assumption) (by first | exact hS.2.2 _ _ _ _ rfl | assumption) ?_
                first | refine ty_getS (pc := 128) (idx := 86) (ci := 2) (f := 2) (by decide +kernel) (by first | rfl | assumption) rfl (by first | exact hS.1 _ _ rfl | assumption) (by assumption) ?_ | (refine ty_getR (pc := 128) (idx := 86) (ci := 2) (f := 2) (by decide +kernel) (by first | rfl | assumption) rfl (by first | exact hS.1 _ _ rfl | assumption) (fun v hv => ?_); (subst hv))
                refine ty_iload (pc := 131) (i := 4) (ks := []) (by decide +kernel) rfl ?_
                -- at 133: .iaload
                refine ty_iaload (pc := 133) (ks := []) (by decide +kernel) k2 (by rfl) p2 n2 (by omega) (fun v hv => ?_)
                rw [aF] at hv
                subst hv
                refine ty_aload_n (pc := 134) (i := 0) (ks := []) (by decide +kernel) rfl ?_
                refine ty_getS (b := (13, 0)) (pc := 135) (idx := 32) (ci := 8) (f := 1) (by decide +kernel) (by first | rfl | assumption) rfl (by first | exact hS.1 _ _ rfl | assumption) (by first | exact hS.2.2 _ _ _ _ rfl | assumption) ?_
                first | refine ty_getS (pc := 138) (idx := 89) (ci := 2) (f := 3) (by decide +kernel) (by first | rfl | assumption) rfl (by first | exact hS.1 _ _ rfl | assumption) (by assumption) ?_ | (refine ty_getR (pc := 138) (idx := 89) (ci := 2) (f := 3) (by decide +kernel) (by first | rfl | assumption) rfl (by first | exact hS.1 _ _ rfl | assumption) (fun v hv => ?_); (subst hv))
                refine ty_iload (pc := 141) (i := 4) (ks := []) (by decide +kernel) rfl ?_
                -- at 143: .iaload
                refine ty_iaload (pc := 143) (ks := []) (by decide +kernel) k3 (by rfl) p3 n3 (by omega) (fun v hv => ?_)
                rw [aE] at hv
                subst hv
                have ig : (cp_b S B hi (-1 - lo)).1 (13, 0) 13 = S.1 (13, 0) 13 := ty_sI_ne (by decide)
                refine ty_callv (pc := 144) (idx := 92) (m := 80) (n := 4) (c := 2) (vs := [_, _, _]) (r := []) (by decide +kernel) rfl rfl (Nat.le_of_ble_eq_true rfl) (by first | rfl | assumption) (by first | exact hS.1 _ _ rfl | assumption) (cv_linkBehind (d + 1) (by exact hS) (by exact hV) (gc := S.1 (13, 0) 13) (by omega) bf (by exact ig) (by omega) (by rw [aE]; omega)) ?_
                rintro _ S2 ⟨rfl, e2⟩
                refine ty_KV ?_
                refine ty_goto (pc := 147) (off := 46) (t := 193) (ks := []) (by decide +kernel) ?_
                refine ty_iconst (pc := 193) (n := 1) (ks := []) (by decide +kernel) ?_
                -- at 194: .ireturn
                refine ty_ret_i (pc := 194) (ks := []) (ty := .boolean) (by decide +kernel) rfl (ty_fit_z (by omega)) ?_
                rw [if_neg ht]
                by_cases hz : ch hi = []
                · have hf1 : S.2.2.1 F hi = -1 := by
                    rw [hz] at vhi1
                    exact vhi1
                  rw [if_pos hf1] at e2
                  subst e2
                  have ech : mo_upc ch lo (ch lo ++ ch hi) = ch := by
                    funext j
                    simp only [mo_upc]
                    by_cases z : j = lo
                    · rw [if_pos z, hz, List.append_nil, z]
                    · rw [if_neg z]
                  rw [ech]
                  exact ⟨_, rfl, rfl, cp_R_le q0 (by omega), q2, q3, rfl, cp_fl1 ty_sI_at, fun z => absurd z ht⟩
                · have hf1 : S.2.2.1 F hi ≠ -1 := fun z => hz ((mo_lnk_nil vhi1).mp z)
                  rw [if_neg hf1] at e2
                  have hrv := cv_rv_link r8 hcw hnf ⟨h3, h4, h5, h6, h7⟩ hz
                  obtain ⟨w1, w2, w3⟩ := cp_R_link q0 (v := lo) (first := S.2.2.1 F hi) (last := S.2.2.1 E hi) (ch' := mo_upc ch lo (ch lo ++ ch hi)) ⟨h3, by omega⟩ (by rw [aE]; exact bl) (by rw [ig]; omega) (fun z => by
                    rw [aE, vlo2] at z
                    rw [aF]
                    by_cases y9 : ch lo = []
                    · rw [y9] at vlo1; exact vlo1
                    · have := c1 _ (mo_last_mem y9)
                      omega) (fun z => by
                    rw [aE] at z ⊢
                    rw [aX, vlo2]
                    refine mo_lnk_last vlo1 (fun y9 => z ?_)
                    rw [vlo2, y9]
                    rfl) (by
                    rw [a1, aF, aE, aX]
                    exact hrv)
                  rw [ig] at w1 w2 w3
                  rw [e2]
                  exact ⟨_, rfl, rfl, cp_R_le w1 (by omega), q2.trans w2, q3.trans w3, by rw [cv_lk_2.2]; rfl, cp_fl1 (by rw [cv_lk_I, ty_sI_ne (by decide)]; exact ty_sI_at), fun z => absurd z ht⟩
          by_cases he : x = y
          · rw [if_pos he]
            refine ty_istore (pc := 74) (i := 4) (ks := []) (ls' := [_, _, _, _, _, _]) (by decide +kernel) rfl ?_
            refine ty_iload_n (pc := 76) (i := 1) (ks := []) (by decide +kernel) rfl ?_
            refine ty_iconst (pc := 77) (n := (-1)) (ks := []) (by decide +kernel) ?_
            refine ty_inot (pc := 78) (ks := []) (by decide +kernel) ?_
            refine ty_iload_n (pc := 79) (i := 2) (ks := []) (by decide +kernel) rfl ?_
            refine ty_iconst (pc := 80) (n := (-1)) (ks := []) (by decide +kernel) ?_
            refine ty_inot (pc := 81) (ks := []) (by decide +kernel) ?_
            -- at 82: .invokestatic 80
            refine ty_min (pc := 82) (ins := .invokestatic 80) (ks := []) (by decide +kernel) (by omega) (by omega) (Nat.le_of_ble_eq_true rfl) (fun z2 hz2 => ?_)
            have hzz : z = z2 := by
              rw [← hz, ← hz2, he]
            refine ty_istore (pc := 85) (i := 5) (ks := []) (ls' := [_, _, _, _, _, _]) (by decide +kernel) rfl ?_
            refine ty_iload (pc := 87) (i := 4) (ks := []) (by decide +kernel) rfl ?_
            refine ty_iload (pc := 89) (i := 5) (ks := []) (by decide +kernel) rfl ?_
            -- at 91: .if_icmp .eq 16
            have hzr : -1 ≤ z ∧ z ≤ 200000 := by
              rw [← hz]
              split <;> omega
            refine ty_icmp_eq (pc := 91) (off := 16) (t := 107) (ks := []) (by decide +kernel) (by omega) (by omega) (fun hc => ?_) (fun hc => ?_)
            · refine ty_iload (pc := 107) (i := 4) (ks := []) (by decide +kernel) rfl ?_
              refine ty_iload (pc := 109) (i := 5) (ks := []) (by decide +kernel) rfl ?_
              -- at 111: .if_icmp .eq 36
              refine ty_icmp_eq (pc := 111) (off := 36) (t := 147) (ks := []) (by decide +kernel) (by omega) (by omega) (fun hc => ?_) (fun hc => ?_)
              · refine ty_goto (pc := 147) (off := 46) (t := 193) (ks := []) (by decide +kernel) ?_
                refine ty_iconst (pc := 193) (n := 1) (ks := []) (by decide +kernel) ?_
                -- at 194: .ireturn
                refine ty_ret_i (pc := 194) (ks := []) (ty := .boolean) (by decide +kernel) rfl (ty_fit_z (by omega)) ?_
                exact ⟨_, rfl, rfl, cp_R_le hR0 (by omega), cp_fm.refl, cp_ud.refl, rfl, cp_fl0 rfl, fun _ => cp_tr.refl⟩
              · omega
            · omega
          · rw [if_neg he]
            refine ty_istore (pc := 74) (i := 4) (ks := []) (ls' := [_, _, _, _, _, _]) (by decide +kernel) rfl ?_
            refine ty_iload_n (pc := 76) (i := 1) (ks := []) (by decide +kernel) rfl ?_
            refine ty_iconst (pc := 77) (n := (-1)) (ks := []) (by decide +kernel) ?_
            refine ty_inot (pc := 78) (ks := []) (by decide +kernel) ?_
            refine ty_iload_n (pc := 79) (i := 2) (ks := []) (by decide +kernel) rfl ?_
            refine ty_iconst (pc := 80) (n := (-1)) (ks := []) (by decide +kernel) ?_
            refine ty_inot (pc := 81) (ks := []) (by decide +kernel) ?_
            -- at 82: .invokestatic 80
            refine ty_min (pc := 82) (ins := .invokestatic 80) (ks := []) (by decide +kernel) (by omega) (by omega) (Nat.le_of_ble_eq_true rfl) (fun z2 hz2 => ?_)
            have hzr : -1 ≤ z ∧ z ≤ 200000 := by
              rw [← hz]
              split <;> omega
            have hzr2 : -1 ≤ z2 ∧ z2 ≤ 200000 := by
              rw [← hz2]
              split <;> omega
            refine ty_istore (pc := 85) (i := 5) (ks := []) (ls' := [_, _, _, _, _, _]) (by decide +kernel) rfl ?_
            refine ty_iload (pc := 87) (i := 4) (ks := []) (by decide +kernel) rfl ?_
            refine ty_iload (pc := 89) (i := 5) (ks := []) (by decide +kernel) rfl ?_
            -- at 91: .if_icmp .eq 16
            refine ty_icmp_eq (pc := 91) (off := 16) (t := 107) (ks := []) (by decide +kernel) (by omega) (by omega) (fun hc => ?_) (fun hc => ?_)
            · exfalso
              rw [← hz, ← hz2] at hc
              split at hc <;> split at hc <;> omega
            · by_cases hlt : x < y
              · rw [if_pos hlt]
                have g1 : z = -1 - x := by rw [← hz, if_neg (by omega)]
                have g2 : z2 = -1 - y := by rw [← hz2, if_pos (by omega)]
                refine key z z2 _ hz hz2 (by omega) (by omega) (by omega) (by rw [g2]; exact fy.2.2) (by rw [g1]; exact fx.2.2) ?_
                rw [g1, g2, show -1 - (-1 - y) = y by omega]
              · rw [if_neg hlt]
                have g1 : z = -1 - y := by rw [← hz, if_pos (by omega)]
                have g2 : z2 = -1 - x := by rw [← hz2, if_neg (by omega)]
                refine key z z2 _ hz hz2 (by omega) (by omega) (by omega) (by rw [g2]; exact fx.2.2) (by rw [g1]; exact fy.2.2) ?_
                rw [g1, g2, show -1 - (-1 - x) = x by omega]
    · -- a free variable and a term
      rw [if_neg hneg]
      have key : ∀ (v t : Int) (u : mo_U), 0 ≤ v → v < made → bd v = mo_F → 0 ≤ t → t ≤ 100000 * 624 + 623 → u = (ps, mo_up bd v t, ch, if tr = true then wk else wk ++ ch v, true) →
          ty_W L xs (d + 2) 86 180 [some (.inr (.inr (some (38, 0)))), some (.inl (ty_J x)), some (.inl (ty_J y)), some (.inl (ty_J tb)), some (.inl (ty_J v)), none] [.inl (ty_J t), .inl (ty_J v), .inr (.inr (some (13, 0)))] S (ty_oI (cp_1 S B F E n G made ns sl st tr fl (some u))) := by
        rintro v t u h1 h2 h3 h4 h5 rfl
        have hnf : t ≠ mo_F := mo_ne_F (.inr h4)
        obtain ⟨q1, q2, q3⟩ := cp_R_bind hR0 (v := v) (t := t) ⟨h1, h2, h3⟩ hnf true
        refine ty_callv (pc := 180) (idx := 83) (m := 87) (n := 3) (c := 2) (vs := [_, _]) (r := []) (by decide +kernel) rfl rfl (Nat.le_of_ble_eq_true rfl) (by first | rfl | assumption) (by first | exact hS.1 _ _ rfl | assumption) (cv_bind (d + 1) hS hV (bc := S.1 (13, 0) 7) (by omega) rfl (by omega)) ?_
        rintro _ S1 ⟨rfl, e1⟩
        have e1 : S1 = cp_b S B v t := e1
        rw [e1]
        refine ty_KV ?_
        have hS1 : ty_st (cp_b S B v t) := hS
        refine ty_iload_n (pc := 183) (i := 3) (ks := []) (by decide +kernel) rfl ?_
        -- at 184: .ifCond .ne 9
        refine ty_if_ne (pc := 184) (off := 9) (t := 193) (ks := []) (by decide +kernel) (by omega) (fun hc => ?_) (fun hc => ?_)
        · have ht : tr = true := by
            cases tr
            · simp [htb] at hc
            · rfl
          refine ty_iconst (pc := 193) (n := 1) (ks := []) (by decide +kernel) ?_
          -- at 194: .ireturn
          refine ty_ret_i (pc := 194) (ks := []) (ty := .boolean) (by decide +kernel) rfl (ty_fit_z (by omega)) ?_
          rw [if_pos ht]
          exact ⟨_, rfl, rfl, cp_R_le q1 (by omega), q2, q3, rfl, cp_fl1 ty_sI_at, fun _ => cp_tr_b hV⟩
        · have ht : ¬ tr = true := by
            intro z
            simp [htb, z] at hc
          obtain ⟨vv1, vv2⟩ := r8.2 v h1 h2 h3
          obtain ⟨g1, g2, g3⟩ := hcw.1 v h1 h2 h3
          obtain ⟨a1, a2, a3⟩ := cp_b_A hV (v := v) (t := t)
          have n26 := (cv_ne hV (s := 26) (i := 0) (by decide)).1
          have m1 := hV.2.2.2.2.1
          have aF : (cp_b S B v t).2.2.1 F = S.2.2.1 F := a3 F (fun z => m1.1 z.symm) n26.2.1
          have aX : (cp_b S B v t).2.2.1 (28, 0) = S.2.2.1 (28, 0) := a3 _ (cv_ne hV (by decide)).2.1 (by decide)
          have iw : (cp_b S B v t).1 (38, 0) 7 = wk.length := by
            rw [show (cp_b S B v t).1 (38, 0) 7 = S.1 (38, 0) 7 from ty_sI_ne (by decide)]
            exact r7.1
          have hcnt : wk.length + (ch v).length ≤ 500 := by
            have hnd : (wk ++ ch v).Nodup := by
              have h9 := (mo_cw_wake hcw hnf ⟨h1, h2, h3⟩).2.2.1
              rw [List.append_assoc] at h9
              exact (List.nodup_append.mp h9).2.1
            have := mo_count 500 (wk ++ ch v) hnd (fun e he => by
              rcases List.mem_append.mp he with z | z
              · have := hcw.2.2.2 e (List.mem_append_right _ z)
                omega
              · have := g1 e z
                omega)
            rw [List.length_append] at this
            exact this
          refine ty_aload_n (pc := 187) (i := 0) (ks := []) (by decide +kernel) rfl ?_
          refine ty_iload (pc := 188) (i := 4) (ks := []) (by decide +kernel) rfl ?_
          -- at 190: .invokevirtual 96
          refine ty_callv (pc := 190) (idx := 96) (m := 88) (n := 2) (c := 8) (vs := [_]) (r := []) (by decide +kernel) rfl rfl (Nat.le_of_ble_eq_true rfl) (by first | rfl | assumption) (by first | exact hS.1 _ _ rfl | assumption) (cp_wake (d + 1) (by exact hS) (by exact hV) (es := ch v) (by omega) (by exact iw) (by rw [aX, aF]; exact vv1) (fun e he => by have := g1 e he; omega) (by omega)) ?_
          rintro _ S2 ⟨rfl, w, rfl, w1, w2⟩
          refine ty_KV ?_
          refine ty_iconst (pc := 193) (n := 1) (ks := []) (by decide +kernel) ?_
          -- at 194: .ireturn
          refine ty_ret_i (pc := 194) (ks := []) (ty := .boolean) (by decide +kernel) rfl (ty_fit_z (by omega)) ?_
          rw [if_neg ht]
          obtain ⟨t1, t2, t3⟩ := cp_R_wake q1 (w := w) (es := ch v) g1 w1 w2
          exact ⟨_, rfl, rfl, cp_R_le t1 (by omega), q2.trans t2, q3.trans t3, rfl, cp_fl1 (by rw [ty_sI_ne (by decide)]; exact (ty_sI_at : (cp_b S B v t).1 (13, 0) 7 = _)), fun z => absurd z ht⟩
      have to150 : ∀ Q, ty_W L xs (d + 2) 86 150 [some (.inr (.inr (some (38, 0)))), some (.inl (ty_J x)), some (.inl (ty_J y)), some (.inl (ty_J tb)), none, none] [] S Q → ty_W L xs (d + 2) 86 57 [some (.inr (.inr (some (38, 0)))), some (.inl (ty_J x)), some (.inl (ty_J y)), some (.inl (ty_J tb)), none, none] [] S Q := by
        intro Q h
        refine ty_iload_n (pc := 57) (i := 1) (ks := []) (by decide +kernel) rfl ?_
        -- at 58: .ifCond .ge 92
        refine ty_if_ge (pc := 58) (off := 92) (t := 150) (ks := []) (by decide +kernel) (by omega) (fun hc => ?_) (fun hc => ?_)
        · exact h
        · refine ty_iload_n (pc := 61) (i := 2) (ks := []) (by decide +kernel) rfl ?_
          -- at 62: .ifCond .ge 88
          refine ty_if_ge (pc := 62) (off := 88) (t := 150) (ks := []) (by decide +kernel) (by omega) (fun hc => ?_) (fun hc => ?_)
          · exact h
          · omega
      refine to150 _ ?_
      by_cases hx0 : x < 0
      · rw [if_pos hx0]
        have fx : 0 ≤ -1 - x ∧ -1 - x < made ∧ bd (-1 - x) = mo_F := by
          rcases hx with z | z
          · exact z.2
          · omega
        refine ty_iload_n (pc := 150) (i := 1) (ks := []) (by decide +kernel) rfl ?_
        -- at 151: .ifCond .ge 9
        refine ty_if_ge (pc := 151) (off := 9) (t := 160) (ks := []) (by decide +kernel) (by omega) (fun hc => ?_) (fun hc => ?_)
        · omega
        · refine ty_iload_n (pc := 154) (i := 1) (ks := []) (by decide +kernel) rfl ?_
          refine ty_iconst (pc := 155) (n := (-1)) (ks := []) (by decide +kernel) ?_
          refine ty_inot (pc := 156) (ks := []) (by decide +kernel) ?_
          refine ty_goto (pc := 157) (off := 6) (t := 163) (ks := []) (by decide +kernel) ?_
          refine ty_istore (pc := 163) (i := 4) (ks := []) (ls' := [_, _, _, _, _, _]) (by decide +kernel) rfl ?_
          refine ty_aload_n (pc := 165) (i := 0) (ks := []) (by decide +kernel) rfl ?_
          refine ty_getS (b := (13, 0)) (pc := 166) (idx := 32) (ci := 8) (f := 1) (by decide +kernel) (by first | rfl | assumption) rfl (by first | exact hS.1 _ _ rfl | assumption) (by first | exact hS.2.2 _ _ _ _ rfl | assumption) ?_
          refine ty_iload (pc := 169) (i := 4) (ks := []) (by decide +kernel) rfl ?_
          refine ty_iload_n (pc := 171) (i := 1) (ks := []) (by decide +kernel) rfl ?_
          -- at 172: .ifCond .ge 7
          refine ty_if_ge (pc := 172) (off := 7) (t := 179) (ks := []) (by decide +kernel) (by omega) (fun hc => ?_) (fun hc => ?_)
          · omega
          · refine ty_iload_n (pc := 175) (i := 2) (ks := []) (by decide +kernel) rfl ?_
            refine ty_goto (pc := 176) (off := 4) (t := 180) (ks := []) (by decide +kernel) ?_
            -- at 180: .invokevirtual 83
            exact key (-1 - x) y _ fx.1 fx.2.1 fx.2.2 (by omega) hyr.2 rfl
      · rw [if_neg hx0]
        have fy : 0 ≤ -1 - y ∧ -1 - y < made ∧ bd (-1 - y) = mo_F := by
          rcases hy with z | z
          · exact z.2
          · omega
        refine ty_iload_n (pc := 150) (i := 1) (ks := []) (by decide +kernel) rfl ?_
        -- at 151: .ifCond .ge 9
        refine ty_if_ge (pc := 151) (off := 9) (t := 160) (ks := []) (by decide +kernel) (by omega) (fun hc => ?_) (fun hc => ?_)
        · refine ty_iload_n (pc := 160) (i := 2) (ks := []) (by decide +kernel) rfl ?_
          refine ty_iconst (pc := 161) (n := (-1)) (ks := []) (by decide +kernel) ?_
          refine ty_inot (pc := 162) (ks := []) (by decide +kernel) ?_
          refine ty_istore (pc := 163) (i := 4) (ks := []) (ls' := [_, _, _, _, _, _]) (by decide +kernel) rfl ?_
          refine ty_aload_n (pc := 165) (i := 0) (ks := []) (by decide +kernel) rfl ?_
          refine ty_getS (b := (13, 0)) (pc := 166) (idx := 32) (ci := 8) (f := 1) (by decide +kernel) (by first | rfl | assumption) rfl (by first | exact hS.1 _ _ rfl | assumption) (by first | exact hS.2.2 _ _ _ _ rfl | assumption) ?_
          refine ty_iload (pc := 169) (i := 4) (ks := []) (by decide +kernel) rfl ?_
          refine ty_iload_n (pc := 171) (i := 1) (ks := []) (by decide +kernel) rfl ?_
          -- at 172: .ifCond .ge 7
          refine ty_if_ge (pc := 172) (off := 7) (t := 179) (ks := []) (by decide +kernel) (by omega) (fun hc => ?_) (fun hc => ?_)
          · refine ty_iload_n (pc := 179) (i := 1) (ks := []) (by decide +kernel) rfl ?_
            -- at 180: .invokevirtual 83
            exact key (-1 - y) x _ fy.1 fy.2.1 fy.2.2 (by omega) hxr.2 rfl
          · omega
        · omega
end CPM
