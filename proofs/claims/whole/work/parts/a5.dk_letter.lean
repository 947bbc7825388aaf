/-! The question's variables stay; letter. -/
def mo_QI (nv : Int) (M : mo_M) : Prop := nv ≤ M.2.2.2.2.2.1.1 ∧ ∀ c ∈ M.2.2.2.2.2.2.2.1, nv ≤ c.2.2.2.1
theorem mo_ta_Q {P : mo_P} {nv : Int} {M : mo_M} {t i bar : Int} (h : mo_QI nv M) (hn : 0 ≤ P.2.2.2.1 i) : mo_QI nv (mo_ta P M t i bar).2.1 := by
  obtain ⟨st, came, sl, al, ar, ⟨made, bd, ch, ns, dn, an, aw⟩, todo, cs, ans⟩ := M
  exact ⟨Int.le_trans h.1 (show made ≤ made + P.2.2.2.1 i by omega), h.2⟩
theorem mo_first_Q {P : mo_P} (hW : mo_PW P) {nv : Int} {M : mo_M} (h : mo_QI nv M) : mo_QI nv (mo_first P M).2.1 := by
  obtain ⟨st, came, sl, al, ar, ⟨made, bd, ch, ns, dn, an, aw⟩, todo, cs, ans⟩ := M
  cases todo with
  | nil => exact h
  | cons g todo =>
    obtain ⟨s, l, r, b⟩ := g
    unfold mo_first
    dsimp only
    by_cases e0 : 500 ≤ st
    · rw [if_pos e0]; exact h
    rw [if_neg e0]
    by_cases e1 : s = 33
    · rw [if_pos e1]
      exact ⟨h.1, fun c hc => h.2 c (List.mem_of_mem_drop hc)⟩
    rw [if_neg e1]
    by_cases e2 : s = 40
    · rw [if_pos e2]
      by_cases n1 : mo_next P l 0 = -1
      · rw [if_pos n1]; exact h
      · rw [if_neg n1]
        obtain ⟨q1, q2, q3⟩ := (mo_next_spec (P := P) (t := l) (Int.le_refl 0)).resolve_left n1
        refine mo_ta_Q ?_ (hW.2.2 _ q1 q2).2.1.2.1
        by_cases n2 : mo_next P l (mo_next P l 0 + 1) = -1
        · rw [if_pos n2]; exact h
        · rw [if_neg n2]
          refine ⟨h.1, fun c hc => ?_⟩
          rcases List.mem_cons.mp hc with z | z
          · rw [z]; exact h.1
          · exact h.2 c z
    rw [if_neg e2]
    by_cases e3 : s = 61
    · rw [if_pos e3]; exact h
    rw [if_neg e3]
    by_cases e4 : s = 126
    · rw [if_pos e4]; exact h
    rw [if_neg e4]
    by_cases e5 : s = 60
    · rw [if_pos e5]
      split
      · exact h
      · exact h
    rw [if_neg e5]
    by_cases e6 : mo_val P.1 bd l < 0
    · rw [if_pos e6]; exact h
    · rw [if_neg e6]; exact h
theorem mo_bk_Q {P : mo_P} (hW : mo_PW P) {nv : Int} {M : mo_M} (hI : mo_MI P M) (h : mo_QI nv M) : mo_QI nv (mo_bk P M).2.1 := by
  obtain ⟨st, came, sl, al, ar, V, todo, cs, ans⟩ := M
  cases cs with
  | nil => exact h
  | cons c cs =>
    obtain ⟨t, i, todo', V'⟩ := c
    obtain ⟨b1, b2, b3, ⟨d1, d2, d3, d4⟩⟩ := hI
    unfold mo_bk
    refine mo_ta_Q ⟨h.2 _ List.mem_cons_self, fun c hc => ?_⟩ (hW.2.2 _ d2.1 d2.2.1).2.1.2.1
    have hc : c ∈ (if mo_next P t (i + 1) = -1 then cs else (t, mo_next P t (i + 1), todo', V') :: cs) := hc
    by_cases n2 : mo_next P t (i + 1) = -1
    · rw [if_pos n2] at hc
      exact h.2 c (List.mem_cons_of_mem _ hc)
    · rw [if_neg n2] at hc
      rcases List.mem_cons.mp hc with z | z
      · rw [z]
        exact h.2 (t, i, todo', V') List.mem_cons_self
      · exact h.2 c (List.mem_cons_of_mem _ z)
theorem mo_fin_Q {P : mo_P} {nv : Int} {M : mo_M} {ps : List (Int × Int)} {body : List mo_Go} {newest : Int} (h : mo_QI nv M) : mo_QI nv (mo_fin P M ps body newest).2 := by
  obtain ⟨st, came, sl, al, ar, ⟨made, bd, ch, ns, dn, an, aw⟩, todo, cs, ans⟩ := M
  unfold mo_fin
  dsimp only
  split
  · exact h
  · exact h
theorem mo_seek_Q {P : mo_P} (hW : mo_PW P) (hG : mo_PG P) {nv : Int} : ∀ (m : Nat) (on : Bool) (M : mo_M), mo_MI P M → mo_QI nv M → ((mo_seek P m on M).1 = 0 ∨ (mo_seek P m on M).1 = 1) → mo_QI nv (mo_seek P m on M).2
  | 0, on, M, _, h, hc => h
  | m + 1, on, M, hI, h, hc => by
    unfold mo_seek at hc ⊢
    by_cases e1 : on = true ∧ M.2.2.2.2.2.2.1 = []
    · rw [if_pos e1]; exact h
    rw [if_neg e1] at hc ⊢
    by_cases e2 : on = false ∧ M.2.2.2.2.2.2.2.1 = []
    · rw [if_pos e2]; exact h
    rw [if_neg e2] at hc ⊢
    have key : ∀ r : mo_R1, (r.1 ≠ 2 → mo_1I P r) → mo_QI nv r.2.1 → mo_round P on M = (if r.1 = 1 then mo_fin P r.2.1 r.2.2.1 (mo_bdy P r.2.2.2) (mo_an M) else (r.1, r.2.1)) → ((mo_round P on M).1 = 0 ∨ (mo_round P on M).1 = 1 → mo_MI P (mo_round P on M).2) ∧ mo_QI nv (mo_round P on M).2 := by
      intro r h1 h2 h3
      rw [h3]
      by_cases e : r.1 = 1
      · rw [if_pos e]
        have h1 := h1 (by omega)
        exact ⟨fun _ => (mo_fin_I hW h1.1 h1.2.1 (mo_bdy_ok hW hG h1.2.2.2) (mo_an_r hI).1).2.1, mo_fin_Q h2⟩
      · rw [if_neg e]
        exact ⟨fun w => (h1 (by simp only at w; omega)).1, h2⟩
    have hr : ((mo_round P on M).1 = 0 ∨ (mo_round P on M).1 = 1 → mo_MI P (mo_round P on M).2) ∧ mo_QI nv (mo_round P on M).2 := by
      cases on with
      | true => exact key (mo_first P M) (fun z => mo_first_I hW hI z) (mo_first_Q hW h) rfl
      | false => exact key (mo_bk P M) (fun _ => mo_bk_I hW hI) (mo_bk_Q hW hI h) rfl
    generalize mo_round P on M = R at hr hc
    obtain ⟨c, M'⟩ := R
    dsimp only at hr hc ⊢
    by_cases c1 : c = 1
    · rw [if_pos c1] at hc ⊢
      exact mo_seek_Q hW hG m true M' (hr.1 (.inr c1)) hr.2 hc
    rw [if_neg c1] at hc ⊢
    by_cases c0 : c = 0
    · rw [if_pos c0] at hc ⊢
      exact mo_seek_Q hW hG m false M' (hr.1 (.inl c0)) hr.2 hc
    rw [if_neg c0]
    exact hr.2
section DKL
variable {L : Nat} {xs : Nat → Int32} {S : ty_S} {K : Nat × Nat} {th : Nat} {tau : dk_T} {s : Nat → Nat} {tx : List Int} {pl : Int} {m : Nat} {as : Option mo_M}
/-- letter: what comes out -/
def dk_ltr (G : mo_G) (tau : dk_T) (as : Option mo_M) (v i : Int) : Nat ⊕ Int := if v < 0 ∨ 26 ≤ v then .inl 0 else match as with
  | none => .inl 2
  | some M => if dk_rk tau v = -1 then .inl 2 else
    if i = -1 then .inr (mo_ap [] (mo_wr G M.2.2.2.2.2.1.2.1 40 (-1 - dk_rk tau v))).length
    else if i < 0 ∨ ((mo_ap [] (mo_wr G M.2.2.2.2.2.1.2.1 40 (-1 - dk_rk tau v))).length : Int) ≤ i then .inl 2
    else .inr ((mo_ap [] (mo_wr G M.2.2.2.2.2.1.2.1 40 (-1 - dk_rk tau v))).getD i.toNat 0)
theorem mo_wa_r {G : mo_G} {rd : Int → List Int} {v : Int} (hrd : ∀ k, 0 ≤ k → k < mo_a G v → ∀ c ∈ rd (mo_g G v k), 0 ≤ c ∧ c ≤ 65535) : ∀ (r : Nat) (k : Int), 0 ≤ k → k + r ≤ mo_a G v → ∀ c ∈ mo_wa G rd v r k, 0 ≤ c ∧ c ≤ 65535
  | 0, _, _, _, c, hc => (nomatch hc)
  | r + 1, k, k0, k1, c, hc => by
    rcases List.mem_cons.mp hc with z | z
    · rw [z]; split <;> omega
    · rcases List.mem_append.mp z with y | y
      · exact hrd k k0 (by omega) c y
      · exact mo_wa_r hrd r (k + 1) (by omega) (by omega) c y
theorem mo_wr_r {G : mo_G} {made : Int} {bd : Int → Int} (hw : mo_wf G) (hb : mo_bw G made bd) : ∀ (f : Nat) (t : Int), (mo_ok G made t ∨ (t < 0 ∧ -1 - t < made)) → ∀ c ∈ mo_wr G bd f t, 0 ≤ c ∧ c ≤ 65535
  | 0, _, _, c, hc => (nomatch hc)
  | f + 1, t, ht, c, hc => by
    have hiv := mo_val_isval hw hb ht
    unfold mo_wr at hc
    by_cases e : mo_val G bd t < 0
    · rw [if_pos e] at hc
      rw [List.mem_singleton.mp hc]
      omega
    · rw [if_neg e] at hc
      have ox := (hiv.resolve_left (fun w => by omega)).2.1
      rcases List.mem_cons.mp hc with z | z
      · rw [z]
        exact (hw _ ox.2.1).2.1
      · rcases List.mem_append.mp z with y | y
        · have ha : 0 ≤ mo_a G (mo_val G bd t) ∧ mo_a G (mo_val G bd t) ≤ 3 := (hw _ ox.2.1).2.2.1
          exact mo_wa_r (fun k k0 k1 => mo_wr_r hw hb f _ (.inl (mo_ok_arg hw ox k0 k1))) _ 0 (Int.le_refl _) (by omega) c y
        · split at y
          · rw [List.mem_singleton.mp y]; omega
          · exact (nomatch y)
theorem dk_letter (d : Nat) (hR : dk_R S K th tau s tx pl m as) (hmd : ∀ M q, as = some M → tau 12 = some q → dk_made q M) {v i : Int} (hv : -2147483648 ≤ v ∧ v ≤ 2147483647) (hi : -2147483648 ≤ i ∧ i ≤ 2147483647) : ty_C L xs (d + 45) 95 [.inr (.inr (some (93, 0))), .inl (ty_J v), .inl (ty_J i)] S (fun o S' => o = dk_o (dk_ltr (dk_G S tau) tau as v i) ∧ ∃ S1, (S1 = S ∨ ∃ k f, S1 = cw_s S k f) ∧ (S' = S1 ∨ S' = ty_th S1 ∧ ∃ e, dk_ltr (dk_G S tau) tau as v i = .inl e)) := by
  obtain ⟨hS, hU, hL, hX, hpl, hask, hA⟩ := hR
  have har : 0 ≤ S.1 (93, 0) 6 ∧ S.1 (93, 0) 6 ≤ 1 := by rw [hask]; split <;> omega
  have hwf := dk_wf hU
  refine ty_enter (ml := 4) (ls := [_, _, _, _]) rfl rfl (Nat.le_of_ble_eq_true rfl) ?_
  unfold dk_ltr
  refine ty_iload_n (pc := 0) (i := 1) (ks := []) (by decide +kernel) rfl ?_
  -- at 1: .ifCond .lt 9
  refine ty_if_lt (pc := 1) (off := 9) (t := 10) (ks := []) (by decide +kernel) (by omega) (fun hc => ?_) (fun hc => ?_)
  · refine ty_throw (pc := 10) (ins := .new 71) (x := 0) (by decide +kernel) (Nat.le_of_ble_eq_true rfl) ?_
    rw [if_pos (.inl hc)]
    exact ⟨rfl, S, .inl rfl, .inr ⟨rfl, 0, rfl⟩⟩
  have hv0 := hc
  refine ty_iload_n (pc := 4) (i := 1) (ks := []) (by decide +kernel) rfl ?_
  refine ty_bipush (pc := 5) (n := 26) (ks := []) (by decide +kernel) (by omega) ?_
  -- at 7: .if_icmp .lt 11
  refine ty_icmp_lt (pc := 7) (off := 11) (t := 18) (ks := []) (by decide +kernel) (by omega) (by omega) (fun hc => ?_) (fun hc => ?_)
  rotate_left
  · refine ty_throw (pc := 10) (ins := .new 71) (x := 0) (by decide +kernel) (Nat.le_of_ble_eq_true rfl) ?_
    rw [if_pos (.inr hc)]
    exact ⟨rfl, S, .inl rfl, .inr ⟨rfl, 0, rfl⟩⟩
  have hv1 := hc
  rw [if_neg (by omega)]
  refine ty_aload_n (pc := 18) (i := 0) (ks := []) (by decide +kernel) rfl ?_
  refine ty_getI (pc := 19) (idx := 29) (ci := 0) (f := 6) (by decide +kernel) (by first | rfl | assumption) rfl (by first | exact hS.1 _ _ rfl | assumption) (fun v hv => ?_)
  subst hv
  -- at 22: .ifCond .eq 16
  rw [hask]
  cases as with
  | none =>
    refine ty_if_eq (pc := 22) (off := 16) (t := 38) (ks := []) (by decide +kernel) (by omega) (fun hc => ?_) (fun hc => ?_)
    · refine ty_throw (pc := 38) (ins := .new 95) (x := 2) (by decide +kernel) (Nat.le_of_ble_eq_true rfl) ?_
      exact ⟨rfl, S, .inl rfl, .inr ⟨rfl, 2, rfl⟩⟩
    · exact absurd rfl hc
  | some M =>
    obtain ⟨st, came, sl, al, ar, ⟨made, bd, ch, ns, dn, an, aw⟩, todo, cs, ans⟩ := M
    obtain ⟨⟨q, hq⟩, hY, hI⟩ := hA
    obtain ⟨B, F, E, n, w1, w2, w3, w4, w5, w6, w7, w8, w9⟩ := cs_Y_facts hY hI hwf
    obtain ⟨rk1, rk2, rk3, rk4⟩ := dk_rank hU hq (v := v) ⟨hv0, hv1⟩
    have hmade : dk_nv q ≤ made := hmd _ q rfl hq
    refine ty_if_eq (pc := 22) (off := 16) (t := 38) (ks := []) (by decide +kernel) (by omega) (fun hc => ?_) (fun hc => ?_)
    · exact absurd hc (by simp)
    clear hc
    refine ty_aload_n (pc := 25) (i := 0) (ks := []) (by decide +kernel) rfl ?_
    refine ty_getS (b := (15, 0)) (pc := 26) (idx := 44) (ci := 0) (f := 5) (by decide +kernel) (by first | rfl | assumption) rfl (by first | exact hS.1 _ _ rfl | assumption) (by first | exact hS.2.2 _ _ _ _ rfl | assumption) ?_
    refine ty_getS (pc := 29) (idx := 107) (ci := 3) (f := 5) (by decide +kernel) (by first | rfl | assumption) rfl (by first | exact hS.1 _ _ rfl | assumption) (by first | exact hS.2.2 _ _ _ _ rfl | assumption) ?_
    refine ty_iload_n (pc := 32) (i := 1) (ks := []) (by decide +kernel) rfl ?_
    -- at 33: .iaload
    refine ty_iaload (pc := 33) (ks := []) (by decide +kernel) (by rfl) (by rfl) (hS.1 _ _ rfl) (hS.2.1 _ _ _ rfl) (by omega) (fun w hw => ?_)
    rw [rk1] at hw
    subst hw
    simp only
    refine ty_iconst (pc := 34) (n := (-1)) (ks := []) (by decide +kernel) ?_
    -- at 35: .if_icmp .ne 11
    refine ty_icmp_ne (pc := 35) (off := 11) (t := 46) (ks := []) (by decide +kernel) (by omega) (by omega) (fun hc => ?_) (fun hc => ?_)
    · rw [if_neg hc]
      obtain ⟨rk5, rk6⟩ := rk4 hc
      clear hc
      refine ty_aload_n (pc := 46) (i := 0) (ks := []) (by decide +kernel) rfl ?_
      refine ty_getS (b := (18, 0)) (pc := 47) (idx := 67) (ci := 0) (f := 9) (by decide +kernel) (by first | rfl | assumption) rfl (by first | exact hS.1 _ _ rfl | assumption) (by first | exact hS.2.2 _ _ _ _ rfl | assumption) ?_
      refine ty_aload_n (pc := 50) (i := 0) (ks := []) (by decide +kernel) rfl ?_
      refine ty_getS (b := (15, 0)) (pc := 51) (idx := 44) (ci := 0) (f := 5) (by decide +kernel) (by first | rfl | assumption) rfl (by first | exact hS.1 _ _ rfl | assumption) (by first | exact hS.2.2 _ _ _ _ rfl | assumption) ?_
      refine ty_getS (pc := 54) (idx := 107) (ci := 3) (f := 5) (by decide +kernel) (by first | rfl | assumption) rfl (by first | exact hS.1 _ _ rfl | assumption) (by first | exact hS.2.2 _ _ _ _ rfl | assumption) ?_
      refine ty_iload_n (pc := 57) (i := 1) (ks := []) (by decide +kernel) rfl ?_
      -- at 58: .iaload
      refine ty_iaload (pc := 58) (ks := []) (by decide +kernel) (by rfl) (by rfl) (hS.1 _ _ rfl) (hS.2.1 _ _ _ rfl) (by omega) (fun w hw => ?_)
      rw [rk1] at hw
      subst hw
      have hrr := mo_wr_r hwf w1.2.2.2.2.2.1 40 (-1 - dk_rk tau v) (.inr ⟨by omega, by omega⟩)
      refine ty_callv (pc := 59) (idx := 111) (m := 96) (n := 2) (c := 10) (vs := [_]) (r := []) (by decide +kernel) rfl rfl (Nat.le_of_ble_eq_true rfl) (by first | rfl | assumption) (by first | exact hS.1 _ _ rfl | assumption) (cw_write d w1 (v := dk_rk tau v) ⟨rk5, by omega⟩) ?_
      rintro _ S1 ⟨z, rfl, hz, f, rfl, hat⟩
      refine ty_KI ?_
      have ew : (dk_P S tau s m).1 = dk_G S tau := rfl
      rw [ew] at hz hat
      have hlen := mo_ap_len (ws := []) (xs := mo_wr (dk_G S tau) bd 40 (-1 - dk_rk tau v))
      have hrange : ∀ c ∈ mo_ap [] (mo_wr (dk_G S tau) bd 40 (-1 - dk_rk tau v)), 0 ≤ c ∧ c ≤ 65535 := fun c hc => hrr c (by
        unfold mo_ap at hc
        exact List.mem_of_mem_take hc)
      generalize mo_ap [] (mo_wr (dk_G S tau) bd 40 (-1 - dk_rk tau v)) = ws at hz hat hlen hrange
      have hS : ty_st (cw_s S z f) := hS
      refine ty_istore_n (pc := 62) (i := 3) (ks := []) (ls' := [_, _, _, _]) (by decide +kernel) rfl ?_
      refine ty_iload_n (pc := 63) (i := 2) (ks := []) (by decide +kernel) rfl ?_
      refine ty_iconst (pc := 64) (n := (-1)) (ks := []) (by decide +kernel) ?_
      -- at 65: .if_icmp .ne 5
      refine ty_icmp_ne (pc := 65) (off := 5) (t := 70) (ks := []) (by decide +kernel) (by omega) (by omega) (fun hc => ?_) (fun hc => ?_)
      · rw [if_neg hc]
        refine ty_iload_n (pc := 70) (i := 2) (ks := []) (by decide +kernel) rfl ?_
        -- at 71: .ifCond .lt 8
        refine ty_if_lt (pc := 71) (off := 8) (t := 79) (ks := []) (by decide +kernel) (by omega) (fun hc => ?_) (fun hc => ?_)
        · refine ty_throw (pc := 79) (ins := .new 95) (x := 2) (by decide +kernel) (Nat.le_of_ble_eq_true rfl) ?_
          rw [if_pos (.inl hc)]
          exact ⟨rfl, _, .inr ⟨z, f, rfl⟩, .inr ⟨rfl, 2, rfl⟩⟩
        have hi0 := hc
        refine ty_iload_n (pc := 74) (i := 2) (ks := []) (by decide +kernel) rfl ?_
        refine ty_iload_n (pc := 75) (i := 3) (ks := []) (by decide +kernel) rfl ?_
        -- at 76: .if_icmp .lt 11
        refine ty_icmp_lt (pc := 76) (off := 11) (t := 87) (ks := []) (by decide +kernel) (by omega) (by omega) (fun hc => ?_) (fun hc => ?_)
        · rw [if_neg (by omega)]
          have hval : (cw_s S z f).2.2.1 (47, 0) i = ws.getD i.toNat 0 := by
            show f i = _
            have hk : ws[i.toNat]? = some ws[i.toNat] := List.getElem?_eq_getElem (by omega)
            have := mo_at_get hat hk
            rw [show (0 : Int) + (i.toNat : Int) = i by omega] at this
            rw [this, List.getD_eq_getElem?_getD, hk]
            rfl
          have hcr : 0 ≤ ws.getD i.toNat 0 ∧ ws.getD i.toNat 0 ≤ 65535 := by
            rw [List.getD_eq_getElem?_getD, List.getElem?_eq_getElem (show i.toNat < ws.length by omega)]
            exact hrange _ (List.getElem_mem _)
          refine ty_aload_n (pc := 87) (i := 0) (ks := []) (by decide +kernel) rfl ?_
          refine ty_getS (b := (18, 0)) (pc := 88) (idx := 67) (ci := 0) (f := 9) (by decide +kernel) (by first | rfl | assumption) rfl (by first | exact hS.1 _ _ rfl | assumption) (by first | exact hS.2.2 _ _ _ _ rfl | assumption) ?_
          refine ty_getS (b := (47, 0)) (pc := 91) (idx := 115) (ci := 10) (f := 2) (by decide +kernel) (by first | rfl | assumption) rfl (by first | exact hS.1 _ _ rfl | assumption) (by first | exact hS.2.2 _ _ _ _ rfl | assumption) ?_
          refine ty_iload_n (pc := 94) (i := 2) (ks := []) (by decide +kernel) rfl ?_
          -- at 95: .caload
          refine ty_caload (pc := 95) (ks := []) (by decide +kernel) (by rfl) (by rfl) (hS.1 _ _ rfl) (hS.2.1 _ _ _ rfl) (by omega) (fun w hw => ?_)
          rw [hval] at hw
          subst hw
          refine ty_ret_i (pc := 96) (ks := []) (ty := .int) (by decide +kernel) rfl rfl ?_
          exact ⟨rfl, _, .inr ⟨z, f, rfl⟩, .inl rfl⟩
        · refine ty_throw (pc := 79) (ins := .new 95) (x := 2) (by decide +kernel) (Nat.le_of_ble_eq_true rfl) ?_
          rw [if_pos (.inr (by omega))]
          exact ⟨rfl, _, .inr ⟨z, f, rfl⟩, .inr ⟨rfl, 2, rfl⟩⟩
      · rw [if_pos hc]
        refine ty_iload_n (pc := 68) (i := 3) (ks := []) (by decide +kernel) rfl ?_
        -- at 69: .ireturn
        refine ty_ret_i (pc := 69) (ks := []) (ty := .int) (by decide +kernel) rfl rfl ?_
        rw [hz]
        exact ⟨rfl, _, .inr ⟨_, f, rfl⟩, .inl rfl⟩
    · rw [if_pos hc]
      refine ty_throw (pc := 38) (ins := .new 95) (x := 2) (by decide +kernel) (Nat.le_of_ble_eq_true rfl) ?_
      exact ⟨rfl, S, .inl rfl, .inr ⟨rfl, 2, rfl⟩⟩
end DKL
