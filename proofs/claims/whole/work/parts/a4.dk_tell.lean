/-! What the desk tells of an answer. -/
def dk_sa : List Nat := [31, 32, 33, 34, 19, 20, 21, 22]
theorem dk_U_keep {S S' : ty_S} {tau : dk_T} (hU : dk_U S tau) (h14 : ∀ b : ai_A, b.1 = 14 ∨ b.1 = 15 → ∀ j, S'.1 b j = S.1 b j) (hA : ∀ b : ai_A, b.1 ∈ dk_sa → S'.2.2.1 b = S.2.2.1 b) : dk_U S' tau := by
  intro x t ht
  obtain ⟨h1, g1, g2, g3, g4⟩ := hU x t ht
  have ha : ∀ j, S'.1 (dk_a x) j = S.1 (dk_a x) j := fun j => h14 _ (by unfold dk_a; split; exact .inr rfl; exact .inl rfl) j
  refine ⟨h1, ?_, ?_, ?_, ?_⟩
  · unfold cs_co
    rw [ha, ha, ha, hA (31, x) (show 31 ∈ dk_sa by decide), hA (32, x) (show 32 ∈ dk_sa by decide), hA (33, x) (show 33 ∈ dk_sa by decide)]
    exact g1
  · rw [hA (19, 0) (by decide), hA (20, 0) (by decide), hA (21, 0) (by decide)]
    exact g2
  · rw [hA (34, x) (show 34 ∈ dk_sa by decide)]
    exact g3
  · rw [hA (22, 0) (by decide)]
    exact g4
theorem dk_P_eq {S S' : ty_S} {tau : dk_T} {s : Nat → Nat} {m : Nat} (hA : ∀ b : ai_A, b.1 ∈ dk_sa → S'.2.2.1 b = S.2.2.1 b) : dk_P S' tau s m = dk_P S tau s m := by
  unfold dk_P dk_G
  rw [hA (19, 0) (by decide), hA (20, 0) (by decide), hA (21, 0) (by decide), hA (22, 0) (by decide)]
theorem dk_R_keep {S S' : ty_S} {K : Nat × Nat} {th th' : Nat} {tau : dk_T} {s : Nat → Nat} {tx tx' : List Int} {pl pl' : Int} {m : Nat} {as : Option mo_M} (hR : dk_R S K th tau s tx pl m as) (hN : cs_N S S') (h14 : ∀ b : ai_A, b.1 = 14 ∨ b.1 = 15 → ∀ j, S'.1 b j = S.1 b j) (hA : ∀ b : ai_A, b.1 ∈ dk_sa → S'.2.2.1 b = S.2.2.1 b) (hC : S'.2.2.2.1 (11, 0) = S.2.2.2.1 (11, 0)) (hD : S'.1 (93, 0) 4 = S.1 (93, 0) 4) (hX : dk_X S' tx') (hpl : S'.1 (93, 0) 2 = pl' ∧ -1 ≤ pl' ∧ pl' ≤ 48) (hask : S'.1 (93, 0) 6 = S.1 (93, 0) 6) (hk : ∀ n1 c1 n2 c2 n, cs_k S K n1 c1 n2 c2 n th → cs_k S' K n1 c1 n2 c2 n th') : dk_R S' K th' tau s tx' pl' m as := by
  obtain ⟨r1, r2, r3, r4, r5, r6, r7⟩ := hR
  obtain ⟨l1, l2, l3, l4, l5, l6, l7, l8⟩ := r3
  have hU' := dk_U_keep r2 h14 hA
  have hL' : dk_L S' tau s m := ⟨l1, l2, l3, l4, by rw [hC]; exact l5, by rw [hD]; exact l6, fun x hx => by rw [h14 _ (.inl rfl)]; exact l7 x hx, by rw [h14 _ (.inr rfl)]; exact l8⟩
  refine ⟨hN.1, hU', hL', hX, hpl, by rw [hask]; exact r6, ?_⟩
  cases as with
  | none => exact ⟨r7.1, cs_I_N r7.2 hN hk⟩
  | some M =>
    have hPd := dk_Pd hU' hL'
    have eP := dk_P_eq (tau := tau) (s := s) (m := m) hA
    refine ⟨r7.1, cs_Y_N r7.2.1 hN hPd rfl hk, ?_⟩
    rw [eP]
    exact r7.2.2
theorem dk_R_th {S : ty_S} {K : Nat × Nat} {th : Nat} {tau : dk_T} {s : Nat → Nat} {tx : List Int} {pl : Int} {m : Nat} {as : Option mo_M} (hR : dk_R S K th tau s tx pl m as) : dk_R (ty_th S) K (th + 1) tau s tx pl m as :=
  dk_R_keep hR ⟨hR.1, fun _ _ _ => ⟨rfl, rfl⟩, fun _ _ => ⟨rfl, rfl, rfl⟩, fun _ => Nat.le_refl _, rfl, rfl⟩ (fun _ _ _ => rfl) (fun _ _ => rfl) rfl rfl hR.2.2.2.1 hR.2.2.2.2.1 rfl (fun n1 c1 n2 c2 n h => by
    unfold cs_k at h ⊢
    show 3 * (S.2.2.2.2.2.2.2.1 + 1) ≤ _ ∧ S.2.2.2.2.2.2.2.2 + 6 ≤ _
    omega)
section DKT
variable {L : Nat} {xs : Nat → Int32} {S : ty_S} {K : Nat × Nat} {th : Nat} {tau : dk_T} {s : Nat → Nat} {tx : List Int} {pl : Int} {m : Nat} {as : Option mo_M}
theorem cv_asleep2 (d : Nat) {B F E : ai_A} {n : Nat} {G : mo_G} {made ns : Int} {bd : Int → Int} {ch : Int → List Int} (hV : cw_V S B F E n G made bd) (hrv : cv_rv (S.2.2.1 B) (S.2.2.1 F) (S.2.2.1 E) (S.2.2.1 (28, 0)) made bd ch) {dn : List Int} (hcw : mo_cw made ns bd ch dn) (r12 : 0 ≤ ns ∧ ns ≤ 500) {v : Int} (hv : 0 ≤ v ∧ v < made) :
    ty_C L xs (d + 3) 101 [.inr (.inr (some (13, 0))), .inl (ty_J v)] S (ty_oI fun z S' => z = (if mo_val G bd (-1 - v) < 0 then ((ch (-1 - mo_val G bd (-1 - v))).length : Int) else 0) ∧ S' = S) := by
  obtain ⟨hS, hV, hG, hmn, hr, hb, hw⟩ := hV
  have ht : mo_ok G made (-1 - v) ∨ (-1 - v < 0 ∧ -1 - (-1 - v) < made) := .inr ⟨by omega, by omega⟩
  have hv0 := mo_val_isval hw hb ht
  have hb' : mo_bw G made (S.2.2.1 B) := fun v a b => by rw [hr v a b]; exact hb v a b
  have hval := cv_valueOf (L := L) (xs := xs) d hS hV hG hw hmn.1 hmn.2 hb' ht
  rw [mo_val_eq hw hb hr ht] at hval
  obtain ⟨⟨v1, v2, v3⟩, ⟨k1, k2, k3⟩, ⟨p1, p2, p3⟩, ⟨l1, l2, l3⟩, ⟨m1, m2, m3⟩, ⟨o1, o2, o3⟩, hn⟩ := hV
  have loop : ∀ (es : List Int) (p : Int) (many val : Int), mo_lnk (S.2.2.1 (28, 0)) p es → (∀ c ∈ es, 0 ≤ c ∧ c < 500) → 0 ≤ many → many + es.length ≤ 500 → ty_W L xs (d + 2) 101 24 [some (.inr (.inr (some (13, 0)))), some (.inl (ty_J v)), some (.inl (ty_J val)), some (.inl (ty_J many)), some (.inl (ty_J p))] [] S (ty_oI fun z S' => z = many + es.length ∧ S' = S) := by
    intro es
    induction es with
    | nil =>
      intro p many val hl he h0 h1
      have hp : p = -1 := hl
      subst hp
      refine ty_iload (pc := 24) (i := 4) (ks := []) (by decide +kernel) rfl ?_
      refine ty_iconst (pc := 26) (n := (-1)) (ks := []) (by decide +kernel) ?_
      -- at 27: .if_icmp .eq 25
      refine ty_icmp_eq (pc := 27) (off := 25) (t := 52) (ks := []) (by decide +kernel) (by omega) (by omega) (fun hc => ?_) (fun hc => ?_)
      · refine ty_iload_n (pc := 52) (i := 3) (ks := []) (by decide +kernel) rfl ?_
        -- at 53: .ireturn
        refine ty_ret_i (pc := 53) (ks := []) (ty := .int) (by decide +kernel) rfl rfl ?_
        exact ⟨_, rfl, by simp, rfl⟩
      · exact absurd rfl hc
    | cons e es ih =>
      intro p many val hl he h0 h1
      obtain ⟨rfl, e0, hl2⟩ := hl
      have e5 := (he p List.mem_cons_self).2
      rw [List.length_cons] at h1
      refine ty_iload (pc := 24) (i := 4) (ks := []) (by decide +kernel) rfl ?_
      refine ty_iconst (pc := 26) (n := (-1)) (ks := []) (by decide +kernel) ?_
      -- at 27: .if_icmp .eq 25
      refine ty_icmp_eq (pc := 27) (off := 25) (t := 52) (ks := []) (by decide +kernel) (by omega) (by omega) (fun hc => ?_) (fun hc => ?_)
      · omega
      · clear hc
        refine ty_iload_n (pc := 30) (i := 3) (ks := []) (by decide +kernel) rfl ?_
        refine ty_sipush (pc := 31) (n := 500) (ks := []) (by decide +kernel) (by omega) ?_
        -- at 34: .if_icmp .ge 18
        refine ty_icmp_ge (pc := 34) (off := 18) (t := 52) (ks := []) (by decide +kernel) (by omega) (by omega) (fun hc => ?_) (fun hc => ?_)
        · omega
        · clear hc
          refine ty_iinc (pc := 37) (i := 3) (n := 1) (ks := []) (ls' := [_, _, _, _, _]) (by decide +kernel) rfl rfl ?_
          refine ty_aload_n (pc := 40) (i := 0) (ks := []) (by decide +kernel) rfl ?_
          refine ty_getS (b := (28, 0)) (pc := 41) (idx := 37) (ci := 2) (f := 9) (by decide +kernel) (by first | rfl | assumption) rfl (by first | exact hS.1 _ _ rfl | assumption) (by first | exact hS.2.2 _ _ _ _ rfl | assumption) ?_
          refine ty_iload (pc := 44) (i := 4) (ks := []) (by decide +kernel) rfl ?_
          refine ty_iaload (pc := 46) (ks := []) (by decide +kernel) (by first | rfl | assumption) (by rfl) (by first | exact hS.1 _ _ rfl | assumption) (by first | exact hS.2.1 _ _ _ rfl | assumption) (by omega) (fun v hv => ?_)
          subst hv
          refine ty_istore (pc := 47) (i := 4) (ks := []) (ls' := [_, _, _, _, _]) (by decide +kernel) rfl ?_
          refine ty_goto (pc := 49) (off := (-25)) (t := 24) (ks := []) (by decide +kernel) ?_
          -- at 24: .iload 4
          refine (ih _ (many + 1) val hl2 (fun c hm => he c (List.mem_cons_of_mem _ hm)) (by omega) (by omega)).mono ?_
          rintro o S' ⟨z, rfl, rfl, rfl⟩
          refine ⟨_, rfl, ?_, rfl⟩
          rw [List.length_cons]
          omega
  refine ty_enter (ml := 5) (ls := [_, _, _, _, _]) rfl rfl (Nat.le_of_ble_eq_true rfl) ?_
  refine ty_aload_n (pc := 0) (i := 0) (ks := []) (by decide +kernel) rfl ?_
  refine ty_iload_n (pc := 1) (i := 1) (ks := []) (by decide +kernel) rfl ?_
  refine ty_iconst (pc := 2) (n := (-1)) (ks := []) (by decide +kernel) ?_
  refine ty_inot (pc := 3) (ks := []) (by decide +kernel) ?_
  -- at 4: .invokevirtual 81
  refine ty_callv (pc := 4) (idx := 81) (m := 75) (n := 2) (c := 2) (vs := [_]) (r := []) (by decide +kernel) rfl rfl (Nat.le_of_ble_eq_true rfl) (by first | rfl | assumption) (by first | exact hS.1 _ _ rfl | assumption) hval ?_
  rintro _ S1 ⟨z, rfl, rfl, rfl⟩
  refine ty_KI ?_
  generalize mo_val G bd (-1 - v) = x at hv0
  have xr : -2147483648 ≤ x ∧ x ≤ 2147483647 := by
    rcases hv0 with z | z
    · omega
    · have := mo_ok_le hw z.2.1; omega
  refine ty_istore_n (pc := 7) (i := 2) (ks := []) (ls' := [_, _, _, _, _]) (by decide +kernel) rfl ?_
  refine ty_iconst (pc := 8) (n := 0) (ks := []) (by decide +kernel) ?_
  refine ty_istore_n (pc := 9) (i := 3) (ks := []) (ls' := [_, _, _, _, _]) (by decide +kernel) rfl ?_
  refine ty_iload_n (pc := 10) (i := 2) (ks := []) (by decide +kernel) rfl ?_
  -- at 11: .ifCond .ge 41
  refine ty_if_ge (pc := 11) (off := 41) (t := 52) (ks := []) (by decide +kernel) (by omega) (fun hc => ?_) (fun hc => ?_)
  · refine ty_iload_n (pc := 52) (i := 3) (ks := []) (by decide +kernel) rfl ?_
    -- at 53: .ireturn
    refine ty_ret_i (pc := 53) (ks := []) (ty := .int) (by decide +kernel) rfl rfl ?_
    exact ⟨_, rfl, by rw [if_neg (by omega)], rfl⟩
  · have hx := hv0.resolve_right (fun z => by omega)
    obtain ⟨q1, q2⟩ := hrv.2 (-1 - x) hx.2.1 hx.2.2.1 hx.2.2.2
    obtain ⟨c1, c2, -⟩ := hcw.1 (-1 - x) hx.2.1 hx.2.2.1 hx.2.2.2
    have hlen := mo_count ns.toNat _ c2 (fun e he => by have := c1 e he; omega)
    refine ty_aload_n (pc := 14) (i := 0) (ks := []) (by decide +kernel) rfl ?_
    first | refine ty_getS (pc := 15) (idx := 15) (ci := 2) (f := 2) (by decide +kernel) (by first | rfl | assumption) rfl (by first | exact hS.1 _ _ rfl | assumption) (by assumption) ?_ | (refine ty_getR (pc := 15) (idx := 15) (ci := 2) (f := 2) (by decide +kernel) (by first | rfl | assumption) rfl (by first | exact hS.1 _ _ rfl | assumption) (fun v hv => ?_); (subst hv))
    refine ty_iload_n (pc := 18) (i := 2) (ks := []) (by decide +kernel) rfl ?_
    refine ty_iconst (pc := 19) (n := (-1)) (ks := []) (by decide +kernel) ?_
    refine ty_inot (pc := 20) (ks := []) (by decide +kernel) ?_
    refine ty_iaload (pc := 21) (ks := []) (by decide +kernel) (by first | rfl | assumption) (by rfl) (by first | exact hS.1 _ _ rfl | assumption) (by first | exact hS.2.1 _ _ _ rfl | assumption) (by omega) (fun v hv => ?_)
    subst hv
    refine ty_istore (pc := 22) (i := 4) (ks := []) (ls' := [_, _, _, _, _]) (by decide +kernel) rfl ?_
    -- at 24: .iload 4
    refine (loop _ _ 0 x q1 (fun c hm => by have := c1 c hm; omega) (Int.le_refl _) (by omega)).mono ?_
    rintro o S' ⟨z, rfl, rfl, rfl⟩
    exact ⟨_, rfl, by rw [if_pos (by omega)]; omega, rfl⟩
/-- how many sleep on the variable of rank r -/
def mo_asl (G : mo_G) (M : mo_M) (r : Int) : Int := if mo_val G M.2.2.2.2.2.1.2.1 (-1 - r) < 0 then ((M.2.2.2.2.2.1.2.2.1 (-1 - mo_val G M.2.2.2.2.2.1.2.1 (-1 - r))).length : Int) else 0
/-- the rank of the question's variable v -/
def dk_rk (tau : dk_T) (v : Int) : Int := match tau 12 with
  | some q => pv_r (dk_f q) q.length v.toNat
  | none => -1
/-- sleeping: what comes out -/
def dk_slp (G : mo_G) (tau : dk_T) (as : Option mo_M) (v : Int) : Nat ⊕ Int := if v < 0 ∨ 26 ≤ v then .inl 0 else match as with
  | none => .inr (-1)
  | some M => if dk_rk tau v = -1 then .inr (-1) else .inr (mo_asl G M (dk_rk tau v))
/-- the question's ranks, as the class holds them -/
theorem dk_rank (hU : dk_U S tau) {q : List Int} (hq : tau 12 = some q) {v : Int} (hv : 0 ≤ v ∧ v < 26) : S.2.2.1 (34, 12) v = dk_rk tau v ∧ -1 ≤ dk_rk tau v ∧ dk_rk tau v < 26 ∧ (dk_rk tau v ≠ -1 → 0 ≤ dk_rk tau v ∧ dk_rk tau v < dk_nv q) := by
  obtain ⟨h1, g1, g2, g3, g4⟩ := hU 12 q hq
  have e : dk_rk tau v = pv_r (dk_f q) q.length v.toNat := by unfold dk_rk; rw [hq]
  have := g3 v.toNat (by omega)
  rw [show ((v.toNat : Nat) : Int) = v by omega] at this
  refine ⟨by rw [this, e], ?_⟩
  rw [e]
  by_cases ho : pv_oc (dk_f q) q.length v.toNat = true
  · have h9 := pv_r_lt (h := dk_f q) (n := q.length) (show v.toNat < 26 by omega) ho
    have h8 := pv_k_r (h := dk_f q) (n := q.length) 26
    exact ⟨by omega, by omega, fun _ => h9⟩
  · have : pv_r (dk_f q) q.length v.toNat = -1 := if_neg ho
    rw [this]
    exact ⟨by omega, by omega, fun z => absurd rfl z⟩
/-- the question's variables are made as long as it is asked -/
def dk_made (q : List Int) (M : mo_M) : Prop := dk_nv q ≤ M.2.2.2.2.2.1.1
theorem dk_sleeping (d : Nat) (hR : dk_R S K th tau s tx pl m as) (hmd : ∀ M q, as = some M → tau 12 = some q → dk_made q M) {v : Int} (hv : -2147483648 ≤ v ∧ v ≤ 2147483647) : ty_C L xs (d + 4) 100 [.inr (.inr (some (93, 0))), .inl (ty_J v)] S (fun o S' => o = dk_o (dk_slp (dk_G S tau) tau as v) ∧ (S' = S ∨ S' = ty_th S ∧ ∃ e, dk_slp (dk_G S tau) tau as v = .inl e)) := by
  obtain ⟨hS, hU, hL, hX, hpl, hask, hA⟩ := hR
  have har : 0 ≤ S.1 (93, 0) 6 ∧ S.1 (93, 0) 6 ≤ 1 := by rw [hask]; split <;> omega
  have hwf := dk_wf hU
  refine ty_enter (ml := 2) (ls := [_, _]) rfl rfl (Nat.le_of_ble_eq_true rfl) ?_
  unfold dk_slp
  refine ty_iload_n (pc := 0) (i := 1) (ks := []) (by decide +kernel) rfl ?_
  -- at 1: .ifCond .lt 9
  refine ty_if_lt (pc := 1) (off := 9) (t := 10) (ks := []) (by decide +kernel) (by omega) (fun hc => ?_) (fun hc => ?_)
  · refine ty_throw (pc := 10) (ins := .new 71) (x := 0) (by decide +kernel) (Nat.le_of_ble_eq_true rfl) ?_
    rw [if_pos (.inl hc)]
    exact ⟨rfl, .inr ⟨rfl, 0, rfl⟩⟩
  have hv0 := hc
  refine ty_iload_n (pc := 4) (i := 1) (ks := []) (by decide +kernel) rfl ?_
  refine ty_bipush (pc := 5) (n := 26) (ks := []) (by decide +kernel) (by omega) ?_
  -- at 7: .if_icmp .lt 11
  refine ty_icmp_lt (pc := 7) (off := 11) (t := 18) (ks := []) (by decide +kernel) (by omega) (by omega) (fun hc => ?_) (fun hc => ?_)
  rotate_left
  · refine ty_throw (pc := 10) (ins := .new 71) (x := 0) (by decide +kernel) (Nat.le_of_ble_eq_true rfl) ?_
    rw [if_pos (.inr hc)]
    exact ⟨rfl, .inr ⟨rfl, 0, rfl⟩⟩
  have hv1 := hc
  rw [if_neg (by omega)]
  refine ty_aload_n (pc := 18) (i := 0) (ks := []) (by decide +kernel) rfl ?_
  refine ty_getI (pc := 19) (idx := 29) (ci := 0) (f := 6) (by decide +kernel) (by first | rfl | assumption) rfl (by first | exact hS.1 _ _ rfl | assumption) (fun v hv => ?_)
  subst hv
  -- at 22: .ifCond .eq 16
  rw [hask]
  cases as with
  | none =>
    refine ty_if_eq (pc := 22) (off := 16) (t := 38) (ks := []) (by decide +kernel) (by omega) (fun hc => ?_) (fun hc => ?_)
    · refine ty_iconst (pc := 38) (n := (-1)) (ks := []) (by decide +kernel) ?_
      -- at 39: .ireturn
      refine ty_ret_i (pc := 39) (ks := []) (ty := .int) (by decide +kernel) rfl rfl ?_
      exact ⟨rfl, .inl rfl⟩
    · exact absurd rfl hc
  | some M =>
    obtain ⟨st, came, sl, al, ar, ⟨made, bd, ch, ns, dn, an, aw⟩, todo, cs, ans⟩ := M
    obtain ⟨⟨q, hq⟩, hY, hI⟩ := hA
    obtain ⟨B, F, E, n, w1, w2, w3, w4, w5, w6, w7, w8, w9⟩ := cs_Y_facts hY hI hwf
    obtain ⟨rk1, rk2, rk3, rk4⟩ := dk_rank hU hq (v := v) ⟨hv0, hv1⟩
    have hmade : dk_nv q ≤ made := hmd _ q rfl hq
    refine ty_if_eq (pc := 22) (off := 16) (t := 38) (ks := []) (by decide +kernel) (by omega) (fun hc => ?_) (fun hc => ?_)
    · exact absurd hc (by simp)
    clear hc
    refine ty_aload_n (pc := 25) (i := 0) (ks := []) (by decide +kernel) rfl ?_
    refine ty_getS (b := (15, 0)) (pc := 26) (idx := 44) (ci := 0) (f := 5) (by decide +kernel) (by first | rfl | assumption) rfl (by first | exact hS.1 _ _ rfl | assumption) (by first | exact hS.2.2 _ _ _ _ rfl | assumption) ?_
    refine ty_getS (pc := 29) (idx := 107) (ci := 3) (f := 5) (by decide +kernel) (by first | rfl | assumption) rfl (by first | exact hS.1 _ _ rfl | assumption) (by first | exact hS.2.2 _ _ _ _ rfl | assumption) ?_
    refine ty_iload_n (pc := 32) (i := 1) (ks := []) (by decide +kernel) rfl ?_
    -- at 33: .iaload
    refine ty_iaload (pc := 33) (ks := []) (by decide +kernel) (by rfl) (by rfl) (hS.1 _ _ rfl) (hS.2.1 _ _ _ rfl) (by omega) (fun w hw => ?_)
    rw [rk1] at hw
    subst hw
    simp only
    refine ty_iconst (pc := 34) (n := (-1)) (ks := []) (by decide +kernel) ?_
    -- at 35: .if_icmp .ne 5
    refine ty_icmp_ne (pc := 35) (off := 5) (t := 40) (ks := []) (by decide +kernel) (by omega) (by omega) (fun hc => ?_) (fun hc => ?_)
    · rw [if_neg hc]
      obtain ⟨rk5, rk6⟩ := rk4 hc
      refine ty_aload_n (pc := 40) (i := 0) (ks := []) (by decide +kernel) rfl ?_
      refine ty_getS (b := (17, 0)) (pc := 41) (idx := 60) (ci := 0) (f := 8) (by decide +kernel) (by first | rfl | assumption) rfl (by first | exact hS.1 _ _ rfl | assumption) (by first | exact hS.2.2 _ _ _ _ rfl | assumption) ?_
      refine ty_getS (b := (13, 0)) (pc := 44) (idx := 118) (ci := 5) (f := 1) (by decide +kernel) (by first | rfl | assumption) rfl (by first | exact hS.1 _ _ rfl | assumption) (by first | exact hS.2.2 _ _ _ _ rfl | assumption) ?_
      refine ty_aload_n (pc := 47) (i := 0) (ks := []) (by decide +kernel) rfl ?_
      refine ty_getS (b := (15, 0)) (pc := 48) (idx := 44) (ci := 0) (f := 5) (by decide +kernel) (by first | rfl | assumption) rfl (by first | exact hS.1 _ _ rfl | assumption) (by first | exact hS.2.2 _ _ _ _ rfl | assumption) ?_
      refine ty_getS (pc := 51) (idx := 107) (ci := 3) (f := 5) (by decide +kernel) (by first | rfl | assumption) rfl (by first | exact hS.1 _ _ rfl | assumption) (by first | exact hS.2.2 _ _ _ _ rfl | assumption) ?_
      refine ty_iload_n (pc := 54) (i := 1) (ks := []) (by decide +kernel) rfl ?_
      -- at 55: .iaload
      refine ty_iaload (pc := 55) (ks := []) (by decide +kernel) (by rfl) (by rfl) (hS.1 _ _ rfl) (hS.2.1 _ _ _ rfl) (by omega) (fun w hw => ?_)
      rw [rk1] at hw
      subst hw
      refine ty_callv (pc := 56) (idx := 122) (m := 101) (n := 2) (c := 2) (vs := [_]) (r := []) (by decide +kernel) rfl rfl (Nat.le_of_ble_eq_true rfl) (by first | rfl | assumption) (by first | exact hS.1 _ _ rfl | assumption) (cv_asleep2 d w1 w2 w8 w9 (v := dk_rk tau v) ⟨rk5, by omega⟩) ?_
      rintro _ S1 ⟨z, rfl, rfl, rfl⟩
      refine ty_KI ?_
      refine ty_ret_i (pc := 59) (ks := []) (ty := .int) (by decide +kernel) rfl rfl ?_
      exact ⟨rfl, .inl rfl⟩
    · rw [if_pos hc]
      refine ty_iconst (pc := 38) (n := (-1)) (ks := []) (by decide +kernel) ?_
      -- at 39: .ireturn
      refine ty_ret_i (pc := 39) (ks := []) (ty := .int) (by decide +kernel) rfl rfl ?_
      exact ⟨rfl, .inl rfl⟩
end DKT
