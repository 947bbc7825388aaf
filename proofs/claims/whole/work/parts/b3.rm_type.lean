/-! The reference types. -/
section RMY
variable {L : Nat} {xs : Nat → Int32} {S : ty_S} {I : Nat → Int} {A : Nat → Int → Int} {tx : List Int}
theorem dk_nzl_len {e : Int64} : ∀ r, (dk_nzl (dk_bl e r)).length ≤ r
  | 0 => Nat.le_refl _
  | r + 1 => by
    have ih := dk_nzl_len (e := e) r
    show (dk_nzl (dk_by e (8 * r) :: dk_bl e r)).length ≤ r + 1
    rw [dk_nzl_cons]
    split
    · omega
    · rw [List.length_cons]; omega
theorem rm_type (d : Nat) (hS : ty_st S) (hX : rm_X I A tx) (e : Int64) : ty_C L xs (d + 2) 104 [.inr (.inr (some (94, 0))), .inr (.inl e)] (rm_s S I A) (ty_oI fun z S' => (dk_bad (dk_bl e 8) ∧ S' = rm_s S (rm_u I 11 1) A) ∨ (¬ dk_bad (dk_bl e 8) ∧ 48 < tx.length + (dk_nzl (dk_bl e 8)).length ∧ S' = rm_s S (rm_u I 11 2) A) ∨
    (¬ dk_bad (dk_bl e 8) ∧ tx.length + (dk_nzl (dk_bl e 8)).length ≤ 48 ∧ z = ((tx.length + (dk_nzl (dk_bl e 8)).length : Nat) : Int) ∧ ∃ g, S' = rm_s S (rm_u (rm_u I 11 0) 7 z) (rm_a A 53 g) ∧ mo_at g 0 (tx ++ dk_nzl (dk_bl e 8)))) := by
  have x1 := hX.1
  have x2 := hX.2.1
  have h8 := dk_nzl_len (e := e) 8
  -- the second loop
  have loop2 : ∀ (r : Nat) (c f : Int) (w : Option ai_V) (ws : List Int) (g : Int → Int), r ≤ 8 → mo_at g 0 ws → ws.length + (dk_nzl (dk_bl e r)).length ≤ 48 → ty_W L xs (d + 1) 104 91 [some (.inr (.inr (some (94, 0)))), some (.inr (.inl e)), none, some (.inl (ty_J c)), some (.inl (ty_J f)), some (.inl (ty_J (8 * (r : Int) - 8))), w] [] (rm_s S (rm_u (rm_u I 11 0) 7 ws.length) (rm_a A 53 g)) (ty_oI fun z S' => z = ((ws ++ dk_nzl (dk_bl e r)).length : Int) ∧ ∃ g', S' = rm_s S (rm_u (rm_u I 11 0) 7 z) (rm_a A 53 g') ∧ mo_at g' 0 (ws ++ dk_nzl (dk_bl e r))) := by
    intro r
    induction r with
    | zero =>
      intro c f w ws g hr hat hlen
      refine ty_iload (pc := 91) (i := 5) (ks := []) (by decide +kernel) rfl ?_
      -- at 93: .ifCond .lt 49
      refine ty_if_lt (pc := 93) (off := 49) (t := 142) (ks := []) (by decide +kernel) (by omega) (fun hc => ?_) (fun hc => ?_)
      · refine ty_aload_n (pc := 142) (i := 0) (ks := []) (by decide +kernel) rfl ?_
        refine ty_getI (pc := 143) (idx := 146) (ci := 13) (f := 7) (by decide +kernel) (by first | rfl | assumption) rfl (by first | exact hS.1 _ _ rfl | assumption) (fun v hv => ?_)
        simp (decide := true) only [rm_I, rm_u, rm_w, ty_sI, ty_sR, ty_sA, ty_sQ, ty_mA, ty_mQ, ↓reduceIte, false_and, and_false, true_and, and_true, and_self] at hv
        subst hv
        -- at 146: .ireturn
        refine ty_ret_i (pc := 146) (ks := []) (ty := .int) (by decide +kernel) rfl rfl ?_
        have e0 : ws ++ dk_nzl (dk_bl e 0) = ws := List.append_nil ws
        rw [e0]
        exact ⟨_, rfl, rfl, g, rfl, hat⟩
      · omega
    | succ r ih =>
      intro c f w ws g hr hat hlen
      have hb := dk_by_r (e := e) (k := 8 * (r : Int))
      have ebl : dk_bl e (r + 1) = dk_by e (8 * r) :: dk_bl e r := rfl
      rw [ebl, dk_nzl_cons] at hlen ⊢
      rw [show 8 * ((r + 1 : Nat) : Int) - 8 = 8 * (r : Int) by omega]
      refine ty_iload (pc := 91) (i := 5) (ks := []) (by decide +kernel) rfl ?_
      -- at 93: .ifCond .lt 49
      refine ty_if_lt (pc := 93) (off := 49) (t := 142) (ks := []) (by decide +kernel) (by omega) (fun hc => ?_) (fun hc => ?_)
      · omega
      clear hc
      refine ty_lload_n (pc := 96) (i := 1) (ks := []) (by decide +kernel) rfl ?_
      refine ty_iload (pc := 97) (i := 5) (ks := []) (by decide +kernel) rfl ?_
      refine ty_pure (pc := 99) (ins := .lushr) (ks := []) (by decide +kernel) rfl ?_
      refine ty_pure (pc := 100) (ins := .l2i) (ks := []) (by decide +kernel) rfl ?_
      refine ty_sipush (pc := 101) (n := 255) (ks := []) (by decide +kernel) (by omega) ?_
      refine ty_pure (pc := 104) (ins := .iand) (ks := []) (by decide +kernel) rfl ?_
      -- at 105: .istore 6
      show ty_W L xs (d + 1) _ _ _ (.inl (dk_b e (8 * r)) :: []) _ _
      rw [dk_by_J]
      refine ty_istore (pc := 105) (i := 6) (ks := []) (ls' := [_, _, _, _, _, _, _]) (by decide +kernel) rfl ?_
      refine ty_iload (pc := 107) (i := 6) (ks := []) (by decide +kernel) rfl ?_
      -- at 109: .ifCond .ne 6
      refine ty_if_ne (pc := 109) (off := 6) (t := 115) (ks := []) (by decide +kernel) (by omega) (fun hc => ?_) (fun hc => ?_)
      · rw [if_neg hc] at hlen ⊢
        rw [List.length_cons] at hlen
        refine ty_aload_n (pc := 115) (i := 0) (ks := []) (by decide +kernel) rfl ?_
        refine ty_getS (b := (53, 0)) (pc := 116) (idx := 7) (ci := 13) (f := 0) (by decide +kernel) (by first | rfl | assumption) rfl (by first | exact hS.1 _ _ rfl | assumption) (by first | exact hS.2.2 _ _ _ _ rfl | assumption) ?_
        refine ty_aload_n (pc := 119) (i := 0) (ks := []) (by decide +kernel) rfl ?_
        refine ty_getI (pc := 120) (idx := 146) (ci := 13) (f := 7) (by decide +kernel) (by first | rfl | assumption) rfl (by first | exact hS.1 _ _ rfl | assumption) (fun v hv => ?_)
        simp (decide := true) only [rm_I, rm_u, rm_w, ty_sI, ty_sR, ty_sA, ty_sQ, ty_mA, ty_mQ, ↓reduceIte, false_and, and_false, true_and, and_true, and_self] at hv
        subst hv
        refine ty_iload (pc := 123) (i := 6) (ks := []) (by decide +kernel) rfl ?_
        refine ty_iastore (pc := 125) (ks := []) (by decide +kernel) (by first | rfl | assumption) (by rfl) (by first | exact hS.1 _ _ rfl | assumption) (by first | exact hS.2.1 _ _ _ rfl | assumption) (by omega) ?_
        rw [rm_sA (by decide)]
        refine ty_aload_n (pc := 126) (i := 0) (ks := []) (by decide +kernel) rfl ?_
        refine ty_dup (pc := 127) (ks := []) (by decide +kernel) rfl ?_
        refine ty_getI (pc := 128) (idx := 146) (ci := 13) (f := 7) (by decide +kernel) (by first | rfl | assumption) rfl (by first | exact hS.1 _ _ rfl | assumption) (fun v hv => ?_)
        simp (decide := true) only [rm_I, rm_u, rm_w, ty_sI, ty_sR, ty_sA, ty_sQ, ty_mA, ty_mQ, ↓reduceIte, false_and, and_false, true_and, and_true, and_self] at hv
        subst hv
        refine ty_iconst (pc := 131) (n := 1) (ks := []) (by decide +kernel) ?_
        refine ty_iadd (pc := 132) (ks := []) (by decide +kernel) ?_
        refine ty_putI (pc := 133) (idx := 146) (ci := 13) (f := 7) (by decide +kernel) (by first | rfl | assumption) rfl rfl (by first | exact hS.1 _ _ rfl | assumption) ?_
        rw [rm_sI]
        refine ty_iinc (pc := 136) (i := 5) (n := (-8)) (ks := []) (ls' := [_, _, _, _, _, _, _]) (by decide +kernel) rfl rfl ?_
        refine ty_goto (pc := 139) (off := (-48)) (t := 91) (ks := []) (by decide +kernel) ?_
        -- at 91: .iload 5
        rw [rm_w_a, rm_u_u, show 8 * (r : Int) + -8 = 8 * (r : Int) - 8 by omega]
        have := ih c f (some (.inl (ty_J (dk_by e (8 * r))))) (ws ++ [dk_by e (8 * r)]) (mo_up g ws.length (dk_by e (8 * r))) (by omega) (mo_at_app.mpr ⟨mo_at_eq (fun j h0 h1 => if_neg (by omega)) hat, ⟨by show mo_up g ws.length _ (0 + ws.length) = _; exact if_pos (by omega), trivial⟩⟩) (by rw [List.length_append, List.length_singleton]; omega)
        have elen : ((ws ++ [dk_by e (8 * r)]).length : Int) = (ws.length : Int) + 1 := by
          rw [List.length_append, List.length_singleton]
          omega
        rw [List.append_assoc, elen] at this
        exact this
      · rw [if_pos hc] at hlen ⊢
        refine ty_goto (pc := 112) (off := 24) (t := 136) (ks := []) (by decide +kernel) ?_
        refine ty_iinc (pc := 136) (i := 5) (n := (-8)) (ks := []) (ls' := [_, _, _, _, _, _, _]) (by decide +kernel) rfl rfl ?_
        refine ty_goto (pc := 139) (off := (-48)) (t := 91) (ks := []) (by decide +kernel) ?_
        -- at 91: .iload 5
        rw [show 8 * (r : Int) + -8 = 8 * (r : Int) - 8 by omega]
        exact ih c f _ ws g (by omega) hat hlen
  -- the first loop
  have loop1 : ∀ (r : Nat) (c f : Int) (x6 : Option ai_V), r ≤ 8 → (f = 0 ∨ f = 1) → (dk_bad (dk_bl e 8) ↔ f = 0 ∨ dk_bad (dk_bl e r)) → 0 ≤ c → c + (dk_nzl (dk_bl e r)).length = (dk_nzl (dk_bl e 8)).length → ty_W L xs (d + 1) 104 9 [some (.inr (.inr (some (94, 0)))), some (.inr (.inl e)), none, some (.inl (ty_J c)), some (.inl (ty_J f)), some (.inl (ty_J (8 * (r : Int) - 8))), x6] [] (rm_s S I A) (ty_oI fun z S' => (dk_bad (dk_bl e 8) ∧ S' = rm_s S (rm_u I 11 1) A) ∨ (¬ dk_bad (dk_bl e 8) ∧ 48 < tx.length + (dk_nzl (dk_bl e 8)).length ∧ S' = rm_s S (rm_u I 11 2) A) ∨
    (¬ dk_bad (dk_bl e 8) ∧ tx.length + (dk_nzl (dk_bl e 8)).length ≤ 48 ∧ z = ((tx.length + (dk_nzl (dk_bl e 8)).length : Nat) : Int) ∧ ∃ g, S' = rm_s S (rm_u (rm_u I 11 0) 7 z) (rm_a A 53 g) ∧ mo_at g 0 (tx ++ dk_nzl (dk_bl e 8)))) := by
    intro r
    induction r with
    | zero =>
      intro c f x6 hr hf hbad h0 hlen
      have hlen : c = (dk_nzl (dk_bl e 8)).length := by rw [← hlen]; show c = c + ((0 : Nat) : Int); omega
      have hb0 : dk_bad (dk_bl e 8) ↔ f = 0 := hbad.trans ⟨fun z => z.resolve_right (fun ⟨b, hb, _⟩ => (nomatch hb)), .inl⟩
      refine ty_iload (pc := 9) (i := 5) (ks := []) (by decide +kernel) rfl ?_
      -- at 11: .ifCond .lt 48
      refine ty_if_lt (pc := 11) (off := 48) (t := 59) (ks := []) (by decide +kernel) (by omega) (fun hc => ?_) (fun hc => ?_)
      rotate_left
      · omega
      clear hc
      refine ty_aload_n (pc := 59) (i := 0) (ks := []) (by decide +kernel) rfl ?_
      refine ty_iload (pc := 60) (i := 4) (ks := []) (by decide +kernel) rfl ?_
      -- at 62: .invokevirtual 142
      refine ty_callv (pc := 62) (idx := 142) (m := 106) (n := 2) (c := 13) (vs := [_]) (r := []) (by decide +kernel) rfl rfl (Nat.le_of_ble_eq_true rfl) (by first | rfl | assumption) (by first | exact hS.1 _ _ rfl | assumption) (rm_bad d hS hf) ?_
      rintro _ S1 ⟨z, rfl, rfl, rfl⟩
      refine ty_KI ?_
      refine ty_if_eq (pc := 65) (off := 5) (t := 70) (ks := []) (by decide +kernel) (by omega) (fun hc => ?_) (fun hc => ?_)
      · have hf1 : f = 1 := by omega
        have hnb : ¬ dk_bad (dk_bl e 8) := fun z => by have := hb0.mp z; omega
        subst hf1
        have hs2 : rm_u I 11 (1 - 1) 7 = tx.length := x1
        clear hc
        refine ty_aload_n (pc := 70) (i := 0) (ks := []) (by decide +kernel) rfl ?_
        refine ty_getI (pc := 71) (idx := 146) (ci := 13) (f := 7) (by decide +kernel) (by first | rfl | assumption) rfl (by first | exact hS.1 _ _ rfl | assumption) (fun v hv => ?_)
        simp (decide := true) only [rm_I, rm_u, rm_w, ty_sI, ty_sR, ty_sA, ty_sQ, ty_mA, ty_mQ, ↓reduceIte, false_and, and_false, true_and, and_true, and_self] at hv
        subst hv
        refine ty_iload_n (pc := 74) (i := 3) (ks := []) (by decide +kernel) rfl ?_
        refine ty_iadd (pc := 75) (ks := []) (by decide +kernel) ?_
        refine ty_bipush (pc := 76) (n := 48) (ks := []) (by decide +kernel) (by omega) ?_
        -- at 78: .if_icmp .le 9
        rw [x1]
        refine ty_icmp_le (pc := 78) (off := 9) (t := 87) (ks := []) (by decide +kernel) (by omega) (by omega) (fun hc => ?_) (fun hc => ?_)
        · have hIs : rm_u (rm_u I 11 0) 7 tx.length = rm_u I 11 0 := by
            funext j
            show (if j = 7 then (tx.length : Int) else if j = 11 then 0 else I j) = if j = 11 then 0 else I j
            by_cases e1 : j = 7
            · rw [if_pos e1, e1, if_neg (by decide), x1]
            · rw [if_neg e1]
          have go : ∀ w : Option ai_V, ty_W L xs (d + 1) 104 91 [some (.inr (.inr (some (94, 0)))), some (.inr (.inl e)), none, some (.inl (ty_J c)), some (.inl (ty_J 1)), some (.inl (ty_J 56)), w] [] (rm_s S (rm_u I 11 0) A) (ty_oI fun z S' => z = ((tx ++ dk_nzl (dk_bl e 8)).length : Int) ∧ ∃ g', S' = rm_s S (rm_u (rm_u I 11 0) 7 z) (rm_a A 53 g') ∧ mo_at g' 0 (tx ++ dk_nzl (dk_bl e 8))) := by
            intro w
            have := loop2 8 c 1 w tx (A 53) (Nat.le_refl _) hX.2.2.2 (by omega)
            rw [hIs, rm_a_self, show (8 : Int) * ((8 : Nat) : Int) - 8 = 56 by decide] at this
            exact this
          refine ty_bipush (pc := 87) (n := 56) (ks := []) (by decide +kernel) (by omega) ?_
          refine ty_istore (pc := 89) (i := 5) (ks := []) (ls' := [_, _, _, _, _, _, _]) (by decide +kernel) rfl ?_
          -- at 91: .iload 5
          refine (go x6).mono ?_
          rintro o S' ⟨z, rfl, hz, g', hS', hat⟩
          refine ⟨z, rfl, .inr (.inr ⟨hnb, by omega, by rw [hz, List.length_append], g', hS', hat⟩)⟩
        · refine ty_aload_n (pc := 81) (i := 0) (ks := []) (by decide +kernel) rfl ?_
          refine ty_iconst (pc := 82) (n := 2) (ks := []) (by decide +kernel) ?_
          -- at 83: .invokevirtual 149
          refine ty_callv (pc := 83) (idx := 149) (m := 107) (n := 2) (c := 13) (vs := [_]) (r := []) (by decide +kernel) rfl rfl (Nat.le_of_ble_eq_true rfl) (by first | rfl | assumption) (by first | exact hS.1 _ _ rfl | assumption) (rm_fail d hS) ?_
          rintro _ S2 ⟨z, rfl, rfl, rfl⟩
          refine ty_KI ?_
          refine ty_ret_i (pc := 86) (ks := []) (ty := .int) (by decide +kernel) rfl rfl ?_
          rw [rm_u_u]
          exact ⟨_, rfl, .inr (.inl ⟨hnb, by omega, rfl⟩)⟩
      · have hf0 : f = 0 := by omega
        subst hf0
        refine ty_iconst (pc := 68) (n := 0) (ks := []) (by decide +kernel) ?_
        -- at 69: .ireturn
        refine ty_ret_i (pc := 69) (ks := []) (ty := .int) (by decide +kernel) rfl rfl ?_
        exact ⟨_, rfl, .inl ⟨hb0.mpr rfl, rfl⟩⟩
    | succ r ih =>
      intro c f x6 hr hf hbad h0 hlen
      have hb := dk_by_r (e := e) (k := 8 * (r : Int))
      have ebl : dk_bl e (r + 1) = dk_by e (8 * r) :: dk_bl e r := rfl
      rw [ebl] at hbad hlen
      rw [dk_nzl_cons] at hlen
      rw [dk_bad_cons] at hbad
      rw [show 8 * ((r + 1 : Nat) : Int) - 8 = 8 * (r : Int) by omega]
      refine ty_iload (pc := 9) (i := 5) (ks := []) (by decide +kernel) rfl ?_
      -- at 11: .ifCond .lt 48
      refine ty_if_lt (pc := 11) (off := 48) (t := 59) (ks := []) (by decide +kernel) (by omega) (fun hc => ?_) (fun hc => ?_)
      · omega
      clear hc
      refine ty_lload_n (pc := 14) (i := 1) (ks := []) (by decide +kernel) rfl ?_
      refine ty_iload (pc := 15) (i := 5) (ks := []) (by decide +kernel) rfl ?_
      refine ty_pure (pc := 17) (ins := .lushr) (ks := []) (by decide +kernel) rfl ?_
      refine ty_pure (pc := 18) (ins := .l2i) (ks := []) (by decide +kernel) rfl ?_
      refine ty_sipush (pc := 19) (n := 255) (ks := []) (by decide +kernel) (by omega) ?_
      refine ty_pure (pc := 22) (ins := .iand) (ks := []) (by decide +kernel) rfl ?_
      -- at 23: .istore 6
      show ty_W L xs (d + 1) _ _ _ (.inl (dk_b e (8 * r)) :: []) _ _
      rw [dk_by_J]
      refine ty_istore (pc := 23) (i := 6) (ks := []) (ls' := [_, _, _, _, _, _, _]) (by decide +kernel) rfl ?_
      refine ty_iload (pc := 25) (i := 6) (ks := []) (by decide +kernel) rfl ?_
      -- at 27: .ifCond .eq 6
      refine ty_if_eq (pc := 27) (off := 6) (t := 33) (ks := []) (by decide +kernel) (by omega) (fun hc => ?_) (fun hc => ?_)
      · rw [if_pos hc] at hlen
        have hz := hc
        refine ty_iload (pc := 33) (i := 6) (ks := []) (by decide +kernel) rfl ?_
        -- at 35: .ifCond .eq 18
        refine ty_if_eq (pc := 35) (off := 18) (t := 53) (ks := []) (by decide +kernel) (by omega) (fun hc => ?_) (fun hc => ?_)
        · refine ty_iinc (pc := 53) (i := 5) (n := (-8)) (ks := []) (ls' := [_, _, _, _, _, _, _]) (by decide +kernel) rfl rfl ?_
          refine ty_goto (pc := 56) (off := (-47)) (t := 9) (ks := []) (by decide +kernel) ?_
          -- at 9: .iload 5
          rw [show 8 * (r : Int) + -8 = 8 * (r : Int) - 8 by omega]
          exact ih c f _ (by omega) hf (hbad.trans ⟨fun z => z.imp id (fun y => y.resolve_left (fun q => q.1 hz)), fun z => z.imp id .inr⟩) h0 hlen
        · exact absurd hz hc
      · rw [if_neg hc] at hlen
        rw [List.length_cons] at hlen
        have hnz := hc
        refine ty_iinc (pc := 30) (i := 3) (n := 1) (ks := []) (ls' := [_, _, _, _, _, _, _]) (by decide +kernel) rfl rfl ?_
        refine ty_iload (pc := 33) (i := 6) (ks := []) (by decide +kernel) rfl ?_
        -- at 35: .ifCond .eq 18
        refine ty_if_eq (pc := 35) (off := 18) (t := 53) (ks := []) (by decide +kernel) (by omega) (fun hc => ?_) (fun hc => ?_)
        · exact absurd hc hnz
        clear hc
        refine ty_iload (pc := 38) (i := 6) (ks := []) (by decide +kernel) rfl ?_
        refine ty_bipush (pc := 40) (n := 33) (ks := []) (by decide +kernel) (by omega) ?_
        refine ty_bipush (pc := 42) (n := 126) (ks := []) (by decide +kernel) (by omega) ?_
        -- at 44: .invokestatic 138
        refine ty_calls (pc := 44) (idx := 138) (m := 105) (n := 3) (c := 0) (av := [_, _, _]) (r := []) (by decide +kernel) rfl rfl (Nat.le_of_ble_eq_true rfl) (rm_in d (v := dk_by e (8 * r)) (a := 33) (b := 126) (by omega) (by decide) (by decide)) ?_
        rintro _ S1 ⟨z, rfl, hz, rfl⟩
        refine ty_KI ?_
        have hzr : 0 ≤ z ∧ z ≤ 1 := by rw [hz]; split <;> omega
        refine ty_if_ne (pc := 47) (off := 6) (t := 53) (ks := []) (by decide +kernel) (by omega) (fun hc => ?_) (fun hc => ?_)
        · have hg : 33 ≤ dk_by e (8 * r) ∧ dk_by e (8 * r) ≤ 126 := by
            by_cases q : 33 ≤ dk_by e (8 * r) ∧ dk_by e (8 * r) ≤ 126
            · exact q
            · rw [if_neg q] at hz
              exact absurd hz hc
          refine ty_iinc (pc := 53) (i := 5) (n := (-8)) (ks := []) (ls' := [_, _, _, _, _, _, _]) (by decide +kernel) rfl rfl ?_
          refine ty_goto (pc := 56) (off := (-47)) (t := 9) (ks := []) (by decide +kernel) ?_
          -- at 9: .iload 5
          rw [show 8 * (r : Int) + -8 = 8 * (r : Int) - 8 by omega]
          exact ih (c + 1) f _ (by omega) hf (hbad.trans ⟨fun z => z.imp id (fun y => y.resolve_left (fun q => by omega)), fun z => z.imp id .inr⟩) (by omega) (by omega)
        · have hg : ¬ (33 ≤ dk_by e (8 * r) ∧ dk_by e (8 * r) ≤ 126) := fun q => by rw [if_pos q] at hz; omega
          refine ty_iconst (pc := 50) (n := 0) (ks := []) (by decide +kernel) ?_
          refine ty_istore (pc := 51) (i := 4) (ks := []) (ls' := [_, _, _, _, _, _, _]) (by decide +kernel) rfl ?_
          refine ty_iinc (pc := 53) (i := 5) (n := (-8)) (ks := []) (ls' := [_, _, _, _, _, _, _]) (by decide +kernel) rfl rfl ?_
          refine ty_goto (pc := 56) (off := (-47)) (t := 9) (ks := []) (by decide +kernel) ?_
          -- at 9: .iload 5
          rw [show 8 * (r : Int) + -8 = 8 * (r : Int) - 8 by omega]
          exact ih (c + 1) 0 _ (by omega) (.inl rfl) (hbad.trans ⟨fun _ => .inl rfl, fun _ => .inr (.inl ⟨hnz, by omega⟩)⟩) (by omega) (by omega)
  refine ty_enter (ml := 7) (ls := [_, _, _, _, _, _, _]) rfl rfl (Nat.le_of_ble_eq_true rfl) ?_
  refine ty_iconst (pc := 0) (n := 0) (ks := []) (by decide +kernel) ?_
  refine ty_istore_n (pc := 1) (i := 3) (ks := []) (ls' := [_, _, _, _, _, _, _]) (by decide +kernel) rfl ?_
  refine ty_iconst (pc := 2) (n := 1) (ks := []) (by decide +kernel) ?_
  refine ty_istore (pc := 3) (i := 4) (ks := []) (ls' := [_, _, _, _, _, _, _]) (by decide +kernel) rfl ?_
  refine ty_bipush (pc := 5) (n := 56) (ks := []) (by decide +kernel) (by omega) ?_
  refine ty_istore (pc := 7) (i := 5) (ks := []) (ls' := [_, _, _, _, _, _, _]) (by decide +kernel) rfl ?_
  -- at 9: .iload 5
  exact loop1 8 0 1 none (Nat.le_refl _) (.inr rfl) ⟨fun z => .inr z, fun z => z.resolve_left (by decide)⟩ (Int.le_refl _) (by omega)
end RMY
