/-! The reference reads goals, clauses, questions. -/
section RMT
variable {L : Nat} {xs : Nat → Int32} {S : ty_S} {I : Nat → Int} {A : Nat → Int → Int} {tx : List Int}
theorem dk_f_0 (h : ∀ c ∈ tx, 33 ≤ c ∧ c ≤ 126) {p : Int} (hp : 0 ≤ p ∧ p ≤ tx.length) : dk_f tx p = 0 ↔ p = tx.length := by
  constructor
  · intro z
    by_cases e : p < (tx.length : Int)
    · have := h _ (dk_f_mem ⟨hp.1, e⟩)
      omega
    · omega
  · intro z
    exact dk_f_n (by omega)
def rm_gp (S : ty_S) (I : Nat → Int) (A : Nat → Int → Int) (ok : Bool) (p : Int) : ai_O → ty_S → Prop := ty_oI fun z S' => z = (if ok = true then 1 else 0) ∧ ∃ g', S' = rm_p S I A p g'
theorem rm_goals (d : Nat) (hS : ty_st S) (hX : rm_X I A tx) : ∀ (m : Nat) (p : Int) (g : Int → Int) (x1 x2 : Option ai_V), 0 ≤ p → p ≤ tx.length → m ≤ 24 → 48 ≤ p + 2 * m → ty_W L xs (d + 3) 113 0 [some (.inr (.inr (some (94, 0)))), x1, x2] [] (rm_p S I A p g) (rm_gp S I A (pt_gs (dk_f tx) m p).1 (pt_gs (dk_f tx) m p).2.1) := by
  have hn : ∀ p, (tx.length : Int) ≤ p → dk_f tx p = 0 := fun p hp => dk_f_n hp
  have h48 := hX.2.1
  intro m
  induction m with
  | zero =>
    intro p g x1 x2 h0 h1 hm hp
    have e0 : dk_f tx p = 0 := hn p (by omega)
    refine ty_aload_n (pc := 0) (i := 0) (ks := []) (by decide +kernel) rfl ?_
    refine ty_bipush (pc := 1) (n := 33) (ks := []) (by decide +kernel) (by omega) ?_
    -- at 3: .invokevirtual 160
    refine ty_callv (pc := 3) (idx := 160) (m := 112) (n := 2) (c := 13) (vs := [_]) (r := []) (by decide +kernel) rfl rfl (Nat.le_of_ble_eq_true rfl) (by first | rfl | assumption) (by first | exact hS.1 _ _ rfl | assumption) ((rm_passes' d hS hX (p := p) (g := g) ⟨h0, h1⟩ (c := 33) (by decide)).deeper (by omega)) ?_
    rintro _ S1 ⟨z, rfl, ⟨rfl, hh, rfl⟩ | ⟨rfl, hh, rfl⟩⟩
    · omega
    refine ty_KI ?_
    refine ty_if_eq (pc := 6) (off := 6) (t := 12) (ks := []) (by decide +kernel) (by omega) (fun hc => ?_) (fun hc => ?_)
    rotate_left
    · exact absurd rfl hc
    clear hc
    refine ty_aload_n (pc := 12) (i := 0) (ks := []) (by decide +kernel) rfl ?_
    -- at 13: .invokevirtual 156
    refine ty_callv (pc := 13) (idx := 156) (m := 111) (n := 1) (c := 13) (vs := []) (r := []) (by decide +kernel) rfl rfl (Nat.le_of_ble_eq_true rfl) (by first | rfl | assumption) (by first | exact hS.1 _ _ rfl | assumption) ((rm_look' d hS hX (p := p) (g := g) ⟨h0, h1⟩).deeper (by omega)) ?_
    rintro _ S1 ⟨z, rfl, rfl, rfl⟩
    refine ty_KI ?_
    refine ty_bipush (pc := 16) (n := 97) (ks := []) (by decide +kernel) (by omega) ?_
    refine ty_bipush (pc := 18) (n := 122) (ks := []) (by decide +kernel) (by omega) ?_
    -- at 20: .invokestatic 138
    refine ty_calls (pc := 20) (idx := 138) (m := 105) (n := 3) (c := 0) (av := [_, _, _]) (r := []) (by decide +kernel) rfl rfl (Nat.le_of_ble_eq_true rfl) ((rm_in d (v := dk_f tx p) (a := 97) (b := 122) (by omega) (by decide) (by decide)).deeper (by omega)) ?_
    rintro _ S2 ⟨w, rfl, hw, rfl⟩
    refine ty_KI ?_
    refine ty_istore_n (pc := 23) (i := 1) (ks := []) (ls' := [_, _, _]) (by decide +kernel) rfl ?_
    refine ty_aload_n (pc := 24) (i := 0) (ks := []) (by decide +kernel) rfl ?_
    refine ty_iconst (pc := 25) (n := 0) (ks := []) (by decide +kernel) ?_
    -- at 26: .invokevirtual 164
    refine ty_callv (pc := 26) (idx := 164) (m := 110) (n := 2) (c := 13) (vs := [_]) (r := []) (by decide +kernel) rfl rfl (Nat.le_of_ble_eq_true rfl) (by first | rfl | assumption) (by first | exact hS.1 _ _ rfl | assumption) (rm_readTerm d hS hX (ca := 0) (.inl rfl) (g := g) h0 h1) ?_
    rintro _ S3 ⟨z, rfl, g', ⟨hno, -⟩ | ⟨-, hz, rfl⟩⟩
    · exact absurd (.inl rfl) hno
    refine ty_KI ?_
    have et : pt_t (dk_f tx) 5 p = (false, p, []) := by
      unfold pt_t
      rw [if_pos (fun q => by rw [e0] at q; unfold pt_ch at q; omega)]
    rw [et] at hz ⊢
    subst hz
    refine ty_if_ne (pc := 29) (off := 5) (t := 34) (ks := []) (by decide +kernel) (by omega) (fun hc => ?_) (fun hc => ?_)
    · exact absurd rfl hc
    · refine ty_iconst (pc := 32) (n := 0) (ks := []) (by decide +kernel) ?_
      -- at 33: .ireturn
      refine ty_ret_i (pc := 33) (ks := []) (ty := .boolean) (by decide +kernel) rfl (ty_fit_z (by omega)) ?_
      exact ⟨0, rfl, rfl, g', rfl⟩
  | succ m ih =>
    intro p g x1 x2 h0 h1 hm hp
    have hgspec := pt_g_spec hn h0 h1
    -- behind a goal
    have behind : ∀ (p1 : Int) (g : Int → Int) (x1 x2 : Option ai_V), (pt_g (dk_f tx) p).1 = true → (pt_g (dk_f tx) p).2.1 = p1 → ty_W L xs (d + 3) 113 99 [some (.inr (.inr (some (94, 0)))), x1, x2] [] (rm_p S I A p1 g) (rm_gp S I A (pt_gs (dk_f tx) (m + 1) p).1 (pt_gs (dk_f tx) (m + 1) p).2.1) := by
      intro p1 g x1 x2 hok hp1
      obtain ⟨k1, k2, k3⟩ := hgspec
      have step : pt_gs (dk_f tx) (m + 1) p = if (pt_g (dk_f tx) p).1 = false then (false, (pt_g (dk_f tx) p).2.1, [], (pt_g (dk_f tx) p).2.2.2)
        else if dk_f tx (pt_g (dk_f tx) p).2.1 = 0 then (true, (pt_g (dk_f tx) p).2.1, [(pt_g (dk_f tx) p).2.2.1], (pt_g (dk_f tx) p).2.2.2)
        else if dk_f tx (pt_g (dk_f tx) p).2.1 ≠ 44 then (false, (pt_g (dk_f tx) p).2.1, [], (pt_g (dk_f tx) p).2.2.2)
        else ((pt_gs (dk_f tx) m ((pt_g (dk_f tx) p).2.1 + 1)).1, (pt_gs (dk_f tx) m ((pt_g (dk_f tx) p).2.1 + 1)).2.1, (pt_g (dk_f tx) p).2.2.1 :: (pt_gs (dk_f tx) m ((pt_g (dk_f tx) p).2.1 + 1)).2.2.1, (pt_g (dk_f tx) p).2.2.2 ++ (pt_gs (dk_f tx) m ((pt_g (dk_f tx) p).2.1 + 1)).2.2.2) := rfl
      rw [step, if_neg (by rw [hok]; decide)]
      have k4 := (k3 hok).1
      rw [hp1] at k1 k2 k4 ⊢
      have hz0 := dk_f_0 hX.2.2.1 (p := p1) ⟨by omega, k2⟩
      refine ty_aload_n (pc := 99) (i := 0) (ks := []) (by decide +kernel) rfl ?_
      refine ty_bipush (pc := 100) (n := 44) (ks := []) (by decide +kernel) (by omega) ?_
      -- at 102: .invokevirtual 160
      refine ty_callv (pc := 102) (idx := 160) (m := 112) (n := 2) (c := 13) (vs := [_]) (r := []) (by decide +kernel) rfl rfl (Nat.le_of_ble_eq_true rfl) (by first | rfl | assumption) (by first | exact hS.1 _ _ rfl | assumption) ((rm_passes' d hS hX (p := p1) (g := g) ⟨by omega, k2⟩ (c := 44) (by decide)).deeper (by omega)) ?_
      rintro _ S1 ⟨z, rfl, ⟨rfl, hh, rfl⟩ | ⟨rfl, hh, rfl⟩⟩
      · refine ty_KI ?_
        rw [if_neg (by omega), if_neg (by omega)]
        refine ty_if_ne (pc := 105) (off := (-105)) (t := 0) (ks := []) (by decide +kernel) (by omega) (fun hc => ?_) (fun hc => ?_)
        · have hlt : p1 ≠ tx.length := fun z => by have := hz0.mpr z; omega
          exact ih (p1 + 1) g x1 x2 (by omega) (by omega) (by omega) (by omega)
        · exact absurd hc (by decide)
      · refine ty_KI ?_
        refine ty_if_ne (pc := 105) (off := (-105)) (t := 0) (ks := []) (by decide +kernel) (by omega) (fun hc => ?_) (fun hc => ?_)
        · exact absurd rfl hc
        clear hc
        unfold rm_p
        have hsz : rm_u I 10 p1 7 = tx.length := hX.1
        refine ty_aload_n (pc := 108) (i := 0) (ks := []) (by decide +kernel) rfl ?_
        refine ty_getI (pc := 109) (idx := 153) (ci := 13) (f := 10) (by decide +kernel) (by first | rfl | assumption) rfl (by first | exact hS.1 _ _ rfl | assumption) (fun v hv => ?_)
        simp (decide := true) only [rm_I, rm_u, rm_w, ty_sI, ty_sR, ty_sA, ty_sQ, ty_mA, ty_mQ, ↓reduceIte, false_and, and_false, true_and, and_true, and_self] at hv
        subst hv
        refine ty_aload_n (pc := 112) (i := 0) (ks := []) (by decide +kernel) rfl ?_
        refine ty_getI (pc := 113) (idx := 146) (ci := 13) (f := 7) (by decide +kernel) (by first | rfl | assumption) rfl (by first | exact hS.1 _ _ rfl | assumption) (fun v hv => ?_)
        simp (decide := true) only [rm_I, rm_u, rm_w, ty_sI, ty_sR, ty_sA, ty_sQ, ty_mA, ty_mQ, ↓reduceIte, false_and, and_false, true_and, and_true, and_self] at hv
        subst hv
        -- at 116: .if_icmp .ne 7
        have hsz2 : I 7 = tx.length := hX.1
        rw [hsz2]
        refine ty_icmp_ne (pc := 116) (off := 7) (t := 123) (ks := []) (by decide +kernel) (by omega) (by omega) (fun hc => ?_) (fun hc => ?_)
        · refine ty_iconst (pc := 123) (n := 0) (ks := []) (by decide +kernel) ?_
          -- at 124: .ireturn
          refine ty_ret_i (pc := 124) (ks := []) (ty := .boolean) (by decide +kernel) rfl (ty_fit_z (by omega)) ?_
          rw [if_neg (fun w => hc (hz0.mp w)), if_pos hh]
          exact ⟨0, rfl, rfl, g, rfl⟩
        · refine ty_iconst (pc := 119) (n := 1) (ks := []) (by decide +kernel) ?_
          refine ty_goto (pc := 120) (off := 4) (t := 124) (ks := []) (by decide +kernel) ?_
          -- at 124: .ireturn
          refine ty_ret_i (pc := 124) (ks := []) (ty := .boolean) (by decide +kernel) rfl (ty_fit_z (by omega)) ?_
          rw [if_pos (hz0.mpr hc)]
          exact ⟨1, rfl, rfl, g, rfl⟩
    -- it fails
    have fail : ∀ (S1 : ty_S) (p1 : Int), (pt_g (dk_f tx) p).1 = false → (pt_g (dk_f tx) p).2.1 = p1 → (∃ g', S1 = rm_p S I A p1 g') → rm_gp S I A (pt_gs (dk_f tx) (m + 1) p).1 (pt_gs (dk_f tx) (m + 1) p).2.1 (.inl (some (.inl (ty_J 0)))) S1 := by
      intro S1 p1 hno hp1 hS1
      have e : pt_gs (dk_f tx) (m + 1) p = (false, (pt_g (dk_f tx) p).2.1, [], (pt_g (dk_f tx) p).2.2.2) := by
        show (if (pt_g (dk_f tx) p).1 = false then _ else _) = _
        rw [if_pos hno]
      rw [e, hp1]
      exact ⟨0, rfl, rfl, hS1⟩
    have hr := dk_f_r hX.2.2.1 (p := p)
    refine ty_aload_n (pc := 0) (i := 0) (ks := []) (by decide +kernel) rfl ?_
    refine ty_bipush (pc := 1) (n := 33) (ks := []) (by decide +kernel) (by omega) ?_
    -- at 3: .invokevirtual 160
    refine ty_callv (pc := 3) (idx := 160) (m := 112) (n := 2) (c := 13) (vs := [_]) (r := []) (by decide +kernel) rfl rfl (Nat.le_of_ble_eq_true rfl) (by first | rfl | assumption) (by first | exact hS.1 _ _ rfl | assumption) ((rm_passes' d hS hX (p := p) (g := g) ⟨h0, h1⟩ (c := 33) (by decide)).deeper (by omega)) ?_
    rintro _ S1 ⟨z, rfl, ⟨rfl, hh, rfl⟩ | ⟨rfl, hh, rfl⟩⟩
    · refine ty_KI ?_
      have eg : pt_g (dk_f tx) p = (true, p + 1, (33, 0, 0), []) := by
        unfold pt_g
        rw [if_pos hh]
      refine ty_if_eq (pc := 6) (off := 6) (t := 12) (ks := []) (by decide +kernel) (by omega) (fun hc => ?_) (fun hc => ?_)
      · exact absurd hc (by decide)
      · refine ty_goto (pc := 9) (off := 90) (t := 99) (ks := []) (by decide +kernel) ?_
        -- at 99: .aload_n 0
        exact behind (p + 1) g x1 x2 (by rw [eg]) (by rw [eg])
    refine ty_KI ?_
    refine ty_if_eq (pc := 6) (off := 6) (t := 12) (ks := []) (by decide +kernel) (by omega) (fun hc => ?_) (fun hc => ?_)
    rotate_left
    · exact absurd rfl hc
    clear hc
    have eqg : pt_g (dk_f tx) p = if (pt_t (dk_f tx) 5 p).1 = false then (false, (pt_t (dk_f tx) 5 p).2.1, (0, 0, 0), (pt_t (dk_f tx) 5 p).2.2)
      else if (97 ≤ dk_f tx p ∧ dk_f tx p ≤ 122) ∧ (dk_f tx (pt_t (dk_f tx) 5 p).2.1 = 0 ∨ dk_f tx (pt_t (dk_f tx) 5 p).2.1 = 44) then (true, (pt_t (dk_f tx) 5 p).2.1, (40, p, p), (pt_t (dk_f tx) 5 p).2.2)
      else if ¬ (dk_f tx (pt_t (dk_f tx) 5 p).2.1 = 61 ∨ dk_f tx (pt_t (dk_f tx) 5 p).2.1 = 126 ∨ dk_f tx (pt_t (dk_f tx) 5 p).2.1 = 60 ∨ dk_f tx (pt_t (dk_f tx) 5 p).2.1 = 63) then (false, (pt_t (dk_f tx) 5 p).2.1, (0, 0, 0), (pt_t (dk_f tx) 5 p).2.2)
      else if dk_f tx (pt_t (dk_f tx) 5 p).2.1 = 63 ∧ ¬ (97 ≤ dk_f tx ((pt_t (dk_f tx) 5 p).2.1 + 1) ∧ dk_f tx ((pt_t (dk_f tx) 5 p).2.1 + 1) ≤ 122) then (false, (pt_t (dk_f tx) 5 p).2.1 + 1, (0, 0, 0), (pt_t (dk_f tx) 5 p).2.2)
      else ((pt_t (dk_f tx) 5 ((pt_t (dk_f tx) 5 p).2.1 + 1)).1, (pt_t (dk_f tx) 5 ((pt_t (dk_f tx) 5 p).2.1 + 1)).2.1, (dk_f tx (pt_t (dk_f tx) 5 p).2.1, p, (pt_t (dk_f tx) 5 p).2.1 + 1), (pt_t (dk_f tx) 5 p).2.2 ++ (pt_t (dk_f tx) 5 ((pt_t (dk_f tx) 5 p).2.1 + 1)).2.2) := by
      unfold pt_g
      rw [if_neg hh]
    obtain ⟨t1, t2, t3⟩ := pt_t_spec hn 5 p h0 h1
    refine ty_aload_n (pc := 12) (i := 0) (ks := []) (by decide +kernel) rfl ?_
    -- at 13: .invokevirtual 156
    refine ty_callv (pc := 13) (idx := 156) (m := 111) (n := 1) (c := 13) (vs := []) (r := []) (by decide +kernel) rfl rfl (Nat.le_of_ble_eq_true rfl) (by first | rfl | assumption) (by first | exact hS.1 _ _ rfl | assumption) ((rm_look' d hS hX (p := p) (g := g) ⟨h0, h1⟩).deeper (by omega)) ?_
    rintro _ S1 ⟨z, rfl, rfl, rfl⟩
    refine ty_KI ?_
    refine ty_bipush (pc := 16) (n := 97) (ks := []) (by decide +kernel) (by omega) ?_
    refine ty_bipush (pc := 18) (n := 122) (ks := []) (by decide +kernel) (by omega) ?_
    -- at 20: .invokestatic 138
    refine ty_calls (pc := 20) (idx := 138) (m := 105) (n := 3) (c := 0) (av := [_, _, _]) (r := []) (by decide +kernel) rfl rfl (Nat.le_of_ble_eq_true rfl) ((rm_in d (v := dk_f tx p) (a := 97) (b := 122) (by omega) (by decide) (by decide)).deeper (by omega)) ?_
    rintro _ S2 ⟨w, rfl, hw, rfl⟩
    refine ty_KI ?_
    have hwr : 0 ≤ w ∧ w ≤ 1 := by rw [hw]; split <;> omega
    refine ty_istore_n (pc := 23) (i := 1) (ks := []) (ls' := [_, _, _]) (by decide +kernel) rfl ?_
    refine ty_aload_n (pc := 24) (i := 0) (ks := []) (by decide +kernel) rfl ?_
    refine ty_iconst (pc := 25) (n := 0) (ks := []) (by decide +kernel) ?_
    -- at 26: .invokevirtual 164
    refine ty_callv (pc := 26) (idx := 164) (m := 110) (n := 2) (c := 13) (vs := [_]) (r := []) (by decide +kernel) rfl rfl (Nat.le_of_ble_eq_true rfl) (by first | rfl | assumption) (by first | exact hS.1 _ _ rfl | assumption) (rm_readTerm d hS hX (ca := 0) (.inl rfl) (g := g) h0 h1) ?_
    rintro _ S3 ⟨z, rfl, g1, ⟨hno, -⟩ | ⟨-, hz, rfl⟩⟩
    · exact absurd (.inl rfl) hno
    refine ty_KI ?_
    generalize pt_t (dk_f tx) 5 p = T at hz eqg t1 t2 t3
    obtain ⟨ok, p1, N1⟩ := T
    simp only at hz eqg t1 t2 t3 ⊢
    cases ok with
    | false =>
      rw [if_neg (by decide)] at hz
      subst hz
      rw [if_pos rfl] at eqg
      refine ty_if_ne (pc := 29) (off := 5) (t := 34) (ks := []) (by decide +kernel) (by omega) (fun hc => ?_) (fun hc => ?_)
      · exact absurd rfl hc
      · refine ty_iconst (pc := 32) (n := 0) (ks := []) (by decide +kernel) ?_
        -- at 33: .ireturn
        refine ty_ret_i (pc := 33) (ks := []) (ty := .boolean) (by decide +kernel) rfl (ty_fit_z (by omega)) ?_
        exact fail _ p1 (by rw [eqg]) (by rw [eqg]) ⟨g1, rfl⟩
    | true =>
      rw [if_pos rfl] at hz
      subst hz
      rw [if_neg (show ¬ (true = false) by decide)] at eqg
      have hp1 : 0 ≤ p1 ∧ p1 ≤ tx.length := ⟨by omega, t2⟩
      have hz0 := dk_f_0 hX.2.2.1 hp1
      have hr1 := dk_f_r hX.2.2.1 (p := p1)
      refine ty_if_ne (pc := 29) (off := 5) (t := 34) (ks := []) (by decide +kernel) (by omega) (fun hc => ?_) (fun hc => ?_)
      rotate_left
      · exact absurd hc (by decide)
      clear hc
      refine ty_aload_n (pc := 34) (i := 0) (ks := []) (by decide +kernel) rfl ?_
      -- at 35: .invokevirtual 156
      refine ty_callv (pc := 35) (idx := 156) (m := 111) (n := 1) (c := 13) (vs := []) (r := []) (by decide +kernel) rfl rfl (Nat.le_of_ble_eq_true rfl) (by first | rfl | assumption) (by first | exact hS.1 _ _ rfl | assumption) ((rm_look' d hS hX (p := p1) (g := g1) hp1).deeper (by omega)) ?_
      rintro _ S4 ⟨z, rfl, rfl, rfl⟩
      refine ty_KI ?_
      -- a sign
      have second : (dk_f tx p1 = 61 ∨ dk_f tx p1 = 126 ∨ dk_f tx p1 = 60 ∨ dk_f tx p1 = 63) → ty_W L xs (d + 3) 113 63 [some (.inr (.inr (some (94, 0)))), some (.inl (ty_J w)), some (.inl (ty_J (dk_f tx p1)))] [] (rm_p S I A p1 g1) (rm_gp S I A (pt_gs (dk_f tx) (m + 1) p).1 (pt_gs (dk_f tx) (m + 1) p).2.1) := by
        intro hsg
        have hlt : p1 ≠ tx.length := fun z => by have := hz0.mpr z; omega
        rw [if_neg (by omega), if_neg (not_not_intro hsg)] at eqg
        have last : ∀ ca : Int, (ca = 0 ∨ ca = 1) → (ca = 1 ↔ dk_f tx p1 = 63) → ty_W L xs (d + 3) 113 85 [some (.inr (.inr (some (94, 0)))), some (.inl (ty_J w)), some (.inl (ty_J (dk_f tx p1)))] [.inl (ty_J ca), .inr (.inr (some (94, 0)))] (rm_p S I A (p1 + 1) g1) (rm_gp S I A (pt_gs (dk_f tx) (m + 1) p).1 (pt_gs (dk_f tx) (m + 1) p).2.1) := by
          intro ca hca hcc
          refine ty_callv (pc := 85) (idx := 164) (m := 110) (n := 2) (c := 13) (vs := [_]) (r := []) (by decide +kernel) rfl rfl (Nat.le_of_ble_eq_true rfl) (by first | rfl | assumption) (by first | exact hS.1 _ _ rfl | assumption) (rm_readTerm d hS hX (ca := ca) hca (p := p1 + 1) (g := g1) (by omega) (by omega)) ?_
          rintro _ S5 ⟨z, rfl, g2, ⟨hno, rfl, rfl⟩ | ⟨hyes, hz, rfl⟩⟩
          · refine ty_KI ?_
            have h63 : dk_f tx p1 = 63 := hcc.mp (by omega)
            rw [if_pos ⟨h63, fun q => hno (.inr q)⟩] at eqg
            refine ty_if_ne (pc := 88) (off := 11) (t := 99) (ks := []) (by decide +kernel) (by omega) (fun hc => ?_) (fun hc => ?_)
            · exact absurd rfl hc
            · refine ty_iconst (pc := 91) (n := 0) (ks := []) (by decide +kernel) ?_
              -- at 92: .ireturn
              refine ty_ret_i (pc := 92) (ks := []) (ty := .boolean) (by decide +kernel) rfl (ty_fit_z (by omega)) ?_
              exact fail _ (p1 + 1) (by rw [eqg]) (by rw [eqg]) ⟨g2, rfl⟩
          · refine ty_KI ?_
            rw [if_neg (fun q => q.2 (hyes.resolve_left (fun e => by have := hcc.mpr q.1; omega)))] at eqg
            cases hok : (pt_t (dk_f tx) 5 (p1 + 1)).1 with
            | false =>
              rw [hok, if_neg (by decide)] at hz
              subst hz
              refine ty_if_ne (pc := 88) (off := 11) (t := 99) (ks := []) (by decide +kernel) (by omega) (fun hc => ?_) (fun hc => ?_)
              · exact absurd rfl hc
              · refine ty_iconst (pc := 91) (n := 0) (ks := []) (by decide +kernel) ?_
                -- at 92: .ireturn
                refine ty_ret_i (pc := 92) (ks := []) (ty := .boolean) (by decide +kernel) rfl (ty_fit_z (by omega)) ?_
                exact fail _ _ (by rw [eqg]; exact hok) (by rw [eqg]) ⟨g2, rfl⟩
            | true =>
              rw [hok, if_pos rfl] at hz
              subst hz
              refine ty_if_ne (pc := 88) (off := 11) (t := 99) (ks := []) (by decide +kernel) (by omega) (fun hc => ?_) (fun hc => ?_)
              · exact behind _ g2 _ _ (by rw [eqg]; exact hok) (by rw [eqg])
              · exact absurd hc (by decide)
        unfold rm_p
        refine ty_aload_n (pc := 63) (i := 0) (ks := []) (by decide +kernel) rfl ?_
        refine ty_dup (pc := 64) (ks := []) (by decide +kernel) rfl ?_
        refine ty_getI (pc := 65) (idx := 153) (ci := 13) (f := 10) (by decide +kernel) (by first | rfl | assumption) rfl (by first | exact hS.1 _ _ rfl | assumption) (fun v hv => ?_)
        simp (decide := true) only [rm_I, rm_u, rm_w, ty_sI, ty_sR, ty_sA, ty_sQ, ty_mA, ty_mQ, ↓reduceIte, false_and, and_false, true_and, and_true, and_self] at hv
        subst hv
        refine ty_iconst (pc := 68) (n := 1) (ks := []) (by decide +kernel) ?_
        refine ty_iadd (pc := 69) (ks := []) (by decide +kernel) ?_
        refine ty_putI (pc := 70) (idx := 153) (ci := 13) (f := 10) (by decide +kernel) (by first | rfl | assumption) rfl rfl (by first | exact hS.1 _ _ rfl | assumption) ?_
        rw [rm_sI]
        refine ty_aload_n (pc := 73) (i := 0) (ks := []) (by decide +kernel) rfl ?_
        refine ty_iload_n (pc := 74) (i := 2) (ks := []) (by decide +kernel) rfl ?_
        refine ty_bipush (pc := 75) (n := 63) (ks := []) (by decide +kernel) (by omega) ?_
        -- at 77: .if_icmp .ne 7
        rw [rm_u_u]
        refine ty_icmp_ne (pc := 77) (off := 7) (t := 84) (ks := []) (by decide +kernel) (by omega) (by omega) (fun hc => ?_) (fun hc => ?_)
        · refine ty_iconst (pc := 84) (n := 0) (ks := []) (by decide +kernel) ?_
          -- at 85: .invokevirtual 164
          exact last 0 (.inl rfl) ⟨fun z => absurd z (by decide), fun z => absurd z hc⟩
        · refine ty_iconst (pc := 80) (n := 1) (ks := []) (by decide +kernel) ?_
          refine ty_goto (pc := 81) (off := 4) (t := 85) (ks := []) (by decide +kernel) ?_
          -- at 85: .invokevirtual 164
          exact last 1 (.inr rfl) ⟨fun _ => hc, fun _ => rfl⟩
      refine ty_istore_n (pc := 38) (i := 2) (ks := []) (ls' := [_, _, _]) (by decide +kernel) rfl ?_
      refine ty_iload_n (pc := 39) (i := 2) (ks := []) (by decide +kernel) rfl ?_
      refine ty_bipush (pc := 40) (n := 61) (ks := []) (by decide +kernel) (by omega) ?_
      -- at 42: .if_icmp .eq 21
      refine ty_icmp_eq (pc := 42) (off := 21) (t := 63) (ks := []) (by decide +kernel) (by omega) (by omega) (fun hc => ?_) (fun hc => ?_)
      · exact second (.inl hc)
      have h61 := hc
      refine ty_iload_n (pc := 45) (i := 2) (ks := []) (by decide +kernel) rfl ?_
      refine ty_bipush (pc := 46) (n := 126) (ks := []) (by decide +kernel) (by omega) ?_
      -- at 48: .if_icmp .eq 15
      refine ty_icmp_eq (pc := 48) (off := 15) (t := 63) (ks := []) (by decide +kernel) (by omega) (by omega) (fun hc => ?_) (fun hc => ?_)
      · exact second (.inr (.inl hc))
      have h126 := hc
      refine ty_iload_n (pc := 51) (i := 2) (ks := []) (by decide +kernel) rfl ?_
      refine ty_bipush (pc := 52) (n := 60) (ks := []) (by decide +kernel) (by omega) ?_
      -- at 54: .if_icmp .eq 9
      refine ty_icmp_eq (pc := 54) (off := 9) (t := 63) (ks := []) (by decide +kernel) (by omega) (by omega) (fun hc => ?_) (fun hc => ?_)
      · exact second (.inr (.inr (.inl hc)))
      have h60 := hc
      refine ty_iload_n (pc := 57) (i := 2) (ks := []) (by decide +kernel) rfl ?_
      refine ty_bipush (pc := 58) (n := 63) (ks := []) (by decide +kernel) (by omega) ?_
      -- at 60: .if_icmp .ne 33
      refine ty_icmp_ne (pc := 60) (off := 33) (t := 93) (ks := []) (by decide +kernel) (by omega) (by omega) (fun hc => ?_) (fun hc => ?_)
      rotate_left
      · exact second (.inr (.inr (.inr hc)))
      have h63 := hc
      refine ty_iload_n (pc := 93) (i := 1) (ks := []) (by decide +kernel) rfl ?_
      -- at 94: .ifCond .ne 5
      refine ty_if_ne (pc := 94) (off := 5) (t := 99) (ks := []) (by decide +kernel) (by omega) (fun hc => ?_) (fun hc => ?_)
      · -- it may be a call
        have hsm : 97 ≤ dk_f tx p ∧ dk_f tx p ≤ 122 := by
          by_cases q : 97 ≤ dk_f tx p ∧ dk_f tx p ≤ 122
          · exact q
          · rw [if_neg q] at hw
            exact absurd hw hc
        by_cases e : dk_f tx p1 = 0 ∨ dk_f tx p1 = 44
        · rw [if_pos ⟨hsm, e⟩] at eqg
          exact behind p1 g1 _ _ (by rw [eqg]) (by rw [eqg])
        · rw [if_neg (fun q => e q.2), if_pos (by omega)] at eqg
          refine ty_aload_n (pc := 99) (i := 0) (ks := []) (by decide +kernel) rfl ?_
          refine ty_bipush (pc := 100) (n := 44) (ks := []) (by decide +kernel) (by omega) ?_
          -- at 102: .invokevirtual 160
          refine ty_callv (pc := 102) (idx := 160) (m := 112) (n := 2) (c := 13) (vs := [_]) (r := []) (by decide +kernel) rfl rfl (Nat.le_of_ble_eq_true rfl) (by first | rfl | assumption) (by first | exact hS.1 _ _ rfl | assumption) ((rm_passes' d hS hX (p := p1) (g := g1) hp1 (c := 44) (by decide)).deeper (by omega)) ?_
          rintro _ S5 ⟨z, rfl, ⟨rfl, hh2, rfl⟩ | ⟨rfl, hh2, rfl⟩⟩
          · exact absurd (.inr hh2) e
          refine ty_KI ?_
          refine ty_if_ne (pc := 105) (off := (-105)) (t := 0) (ks := []) (by decide +kernel) (by omega) (fun hc => ?_) (fun hc => ?_)
          · exact absurd rfl hc
          unfold rm_p
          refine ty_aload_n (pc := 108) (i := 0) (ks := []) (by decide +kernel) rfl ?_
          refine ty_getI (pc := 109) (idx := 153) (ci := 13) (f := 10) (by decide +kernel) (by first | rfl | assumption) rfl (by first | exact hS.1 _ _ rfl | assumption) (fun v hv => ?_)
          simp (decide := true) only [rm_I, rm_u, rm_w, ty_sI, ty_sR, ty_sA, ty_sQ, ty_mA, ty_mQ, ↓reduceIte, false_and, and_false, true_and, and_true, and_self] at hv
          subst hv
          refine ty_aload_n (pc := 112) (i := 0) (ks := []) (by decide +kernel) rfl ?_
          refine ty_getI (pc := 113) (idx := 146) (ci := 13) (f := 7) (by decide +kernel) (by first | rfl | assumption) rfl (by first | exact hS.1 _ _ rfl | assumption) (fun v hv => ?_)
          simp (decide := true) only [rm_I, rm_u, rm_w, ty_sI, ty_sR, ty_sA, ty_sQ, ty_mA, ty_mQ, ↓reduceIte, false_and, and_false, true_and, and_true, and_self] at hv
          subst hv
          -- at 116: .if_icmp .ne 7
          have hsz2 : I 7 = tx.length := hX.1
          rw [hsz2]
          refine ty_icmp_ne (pc := 116) (off := 7) (t := 123) (ks := []) (by decide +kernel) (by omega) (by omega) (fun hc => ?_) (fun hc => ?_)
          · refine ty_iconst (pc := 123) (n := 0) (ks := []) (by decide +kernel) ?_
            -- at 124: .ireturn
            refine ty_ret_i (pc := 124) (ks := []) (ty := .boolean) (by decide +kernel) rfl (ty_fit_z (by omega)) ?_
            exact fail _ p1 (by rw [eqg]) (by rw [eqg]) ⟨g1, rfl⟩
          · exact absurd (.inl (hz0.mpr hc)) e
      · refine ty_iconst (pc := 97) (n := 0) (ks := []) (by decide +kernel) ?_
        -- at 98: .ireturn
        refine ty_ret_i (pc := 98) (ks := []) (ty := .boolean) (by decide +kernel) rfl (ty_fit_z (by omega)) ?_
        rw [if_neg (fun q => by rw [if_pos q.1] at hw; omega), if_pos (by omega)] at eqg
        exact fail _ p1 (by rw [eqg]) (by rw [eqg]) ⟨g1, rfl⟩
theorem rm_readGoals (d : Nat) (hS : ty_st S) (hX : rm_X I A tx) {g : Int → Int} : ty_C L xs (d + 4) 113 [.inr (.inr (some (94, 0)))] (rm_p S I A 0 g) (rm_gp S I A (pt_gs (dk_f tx) 24 0).1 (pt_gs (dk_f tx) 24 0).2.1) := by
  refine ty_enter (ml := 3) (ls := [_, _, _]) rfl rfl (Nat.le_of_ble_eq_true rfl) ?_
  exact rm_goals d hS hX 24 0 g none none (Int.le_refl _) (by omega) (Nat.le_refl _) (by decide)
theorem rm_readClause (d : Nat) (hS : ty_st S) (hX : rm_X I A tx) {g : Int → Int} : ty_C L xs (d + 5) 109 [.inr (.inr (some (94, 0)))] (rm_p S I A 0 g) (rm_gp S I A (pt_c (dk_f tx)).1 (pt_c (dk_f tx)).2.1) := by
  have hn : ∀ p, (tx.length : Int) ≤ p → dk_f tx p = 0 := fun p hp => dk_f_n hp
  have h48 := hX.2.1
  obtain ⟨t1, t2, t3⟩ := pt_t_spec hn 5 0 (Int.le_refl _) (by omega)
  refine ty_enter (ml := 1) (ls := [_]) rfl rfl (Nat.le_of_ble_eq_true rfl) ?_
  refine ty_aload_n (pc := 0) (i := 0) (ks := []) (by decide +kernel) rfl ?_
  refine ty_iconst (pc := 1) (n := 1) (ks := []) (by decide +kernel) ?_
  -- at 2: .invokevirtual 164
  refine ty_callv (pc := 2) (idx := 164) (m := 110) (n := 2) (c := 13) (vs := [_]) (r := []) (by decide +kernel) rfl rfl (Nat.le_of_ble_eq_true rfl) (by first | rfl | assumption) (by first | exact hS.1 _ _ rfl | assumption) ((rm_readTerm d hS hX (ca := 1) (.inr rfl) (p := 0) (g := g) (Int.le_refl _) (by omega)).deeper (by omega)) ?_
  rintro _ S5 ⟨z, rfl, g2, ⟨hno, rfl, rfl⟩ | ⟨hyes, hz, rfl⟩⟩
  · refine ty_KI ?_
    have ec : pt_c (dk_f tx) = (false, 0, [], []) := by
      unfold pt_c
      rw [if_pos (fun q => hno (.inr q))]
    rw [ec]
    refine ty_if_ne (pc := 5) (off := 5) (t := 10) (ks := []) (by decide +kernel) (by omega) (fun hc => ?_) (fun hc => ?_)
    · exact absurd rfl hc
    · refine ty_iconst (pc := 8) (n := 0) (ks := []) (by decide +kernel) ?_
      -- at 9: .ireturn
      refine ty_ret_i (pc := 9) (ks := []) (ty := .boolean) (by decide +kernel) rfl (ty_fit_z (by omega)) ?_
      exact ⟨0, rfl, rfl, g2, rfl⟩
  · refine ty_KI ?_
    have hsm := hyes.resolve_left (by decide)
    have eqc : pt_c (dk_f tx) = if (pt_t (dk_f tx) 5 0).1 = false then (false, (pt_t (dk_f tx) 5 0).2.1, [], (pt_t (dk_f tx) 5 0).2.2)
      else if dk_f tx (pt_t (dk_f tx) 5 0).2.1 = 0 then (true, (pt_t (dk_f tx) 5 0).2.1, [], (pt_t (dk_f tx) 5 0).2.2)
      else if dk_f tx (pt_t (dk_f tx) 5 0).2.1 ≠ 58 then (false, (pt_t (dk_f tx) 5 0).2.1, [], (pt_t (dk_f tx) 5 0).2.2)
      else ((pt_gs (dk_f tx) 24 ((pt_t (dk_f tx) 5 0).2.1 + 1)).1, (pt_gs (dk_f tx) 24 ((pt_t (dk_f tx) 5 0).2.1 + 1)).2.1, (pt_gs (dk_f tx) 24 ((pt_t (dk_f tx) 5 0).2.1 + 1)).2.2.1, (pt_t (dk_f tx) 5 0).2.2 ++ (pt_gs (dk_f tx) 24 ((pt_t (dk_f tx) 5 0).2.1 + 1)).2.2.2) := by
      unfold pt_c
      rw [if_neg (not_not_intro hsm)]
    rw [eqc]
    clear eqc
    generalize pt_t (dk_f tx) 5 0 = T at hz t1 t2 t3
    obtain ⟨ok, p1, N1⟩ := T
    simp only at hz t1 t2 t3 ⊢
    cases ok with
    | false =>
      rw [if_neg (by decide)] at hz
      subst hz
      rw [if_pos rfl]
      refine ty_if_ne (pc := 5) (off := 5) (t := 10) (ks := []) (by decide +kernel) (by omega) (fun hc => ?_) (fun hc => ?_)
      · exact absurd rfl hc
      · refine ty_iconst (pc := 8) (n := 0) (ks := []) (by decide +kernel) ?_
        -- at 9: .ireturn
        refine ty_ret_i (pc := 9) (ks := []) (ty := .boolean) (by decide +kernel) rfl (ty_fit_z (by omega)) ?_
        exact ⟨0, rfl, rfl, g2, rfl⟩
    | true =>
      rw [if_pos rfl] at hz
      subst hz
      rw [if_neg (show ¬ (true = false) by decide)]
      have hp1 : 0 ≤ p1 ∧ p1 ≤ tx.length := ⟨t1, t2⟩
      have hz0 := dk_f_0 hX.2.2.1 hp1
      refine ty_if_ne (pc := 5) (off := 5) (t := 10) (ks := []) (by decide +kernel) (by omega) (fun hc => ?_) (fun hc => ?_)
      rotate_left
      · exact absurd hc (by decide)
      clear hc
      refine ty_aload_n (pc := 10) (i := 0) (ks := []) (by decide +kernel) rfl ?_
      refine ty_bipush (pc := 11) (n := 58) (ks := []) (by decide +kernel) (by omega) ?_
      -- at 13: .invokevirtual 160
      refine ty_callv (pc := 13) (idx := 160) (m := 112) (n := 2) (c := 13) (vs := [_]) (r := []) (by decide +kernel) rfl rfl (Nat.le_of_ble_eq_true rfl) (by first | rfl | assumption) (by first | exact hS.1 _ _ rfl | assumption) ((rm_passes' d hS hX (p := p1) (g := g2) hp1 (c := 58) (by decide)).deeper (by omega)) ?_
      rintro _ S6 ⟨z, rfl, ⟨rfl, hh, rfl⟩ | ⟨rfl, hh, rfl⟩⟩
      · refine ty_KI ?_
        rw [if_neg (by omega), if_neg (by omega)]
        refine ty_if_eq (pc := 16) (off := 10) (t := 26) (ks := []) (by decide +kernel) (by omega) (fun hc => ?_) (fun hc => ?_)
        · exact absurd hc (by decide)
        · have hlt : p1 ≠ tx.length := fun z => by have := hz0.mpr z; omega
          have hge : 1 ≤ p1 := by
            have := (t3 rfl).1
            omega
          refine ty_aload_n (pc := 19) (i := 0) (ks := []) (by decide +kernel) rfl ?_
          -- at 20: .invokevirtual 167
          have hG : ty_C L xs (d + 4) 113 [.inr (.inr (some (94, 0)))] (rm_p S I A (p1 + 1) g2) (rm_gp S I A (pt_gs (dk_f tx) 24 (p1 + 1)).1 (pt_gs (dk_f tx) 24 (p1 + 1)).2.1) := by
            refine ty_enter (ml := 3) (ls := [_, _, _]) rfl rfl (Nat.le_of_ble_eq_true rfl) ?_
            exact rm_goals d hS hX 24 (p1 + 1) g2 none none (by omega) (by omega) (Nat.le_refl _) (by omega)
          refine ty_callv (pc := 20) (idx := 167) (m := 113) (n := 1) (c := 13) (vs := []) (r := []) (by decide +kernel) rfl rfl (Nat.le_of_ble_eq_true rfl) (by first | rfl | assumption) (by first | exact hS.1 _ _ rfl | assumption) hG ?_
          rintro _ S7 ⟨z, rfl, hz, g3, rfl⟩
          refine ty_KI ?_
          have hzr : 0 ≤ z ∧ z ≤ 1 := by rw [hz]; split <;> omega
          refine ty_goto (pc := 23) (off := 19) (t := 42) (ks := []) (by decide +kernel) ?_
          -- at 42: .ireturn
          refine ty_ret_i (pc := 42) (ks := []) (ty := .boolean) (by decide +kernel) rfl (ty_fit_z (by omega)) ?_
          exact ⟨z, rfl, hz, g3, rfl⟩
      · refine ty_KI ?_
        refine ty_if_eq (pc := 16) (off := 10) (t := 26) (ks := []) (by decide +kernel) (by omega) (fun hc => ?_) (fun hc => ?_)
        · clear hc
          unfold rm_p
          refine ty_aload_n (pc := 26) (i := 0) (ks := []) (by decide +kernel) rfl ?_
          refine ty_getI (pc := 27) (idx := 153) (ci := 13) (f := 10) (by decide +kernel) (by first | rfl | assumption) rfl (by first | exact hS.1 _ _ rfl | assumption) (fun v hv => ?_)
          simp (decide := true) only [rm_I, rm_u, rm_w, ty_sI, ty_sR, ty_sA, ty_sQ, ty_mA, ty_mQ, ↓reduceIte, false_and, and_false, true_and, and_true, and_self] at hv
          subst hv
          refine ty_aload_n (pc := 30) (i := 0) (ks := []) (by decide +kernel) rfl ?_
          refine ty_getI (pc := 31) (idx := 146) (ci := 13) (f := 7) (by decide +kernel) (by first | rfl | assumption) rfl (by first | exact hS.1 _ _ rfl | assumption) (fun v hv => ?_)
          simp (decide := true) only [rm_I, rm_u, rm_w, ty_sI, ty_sR, ty_sA, ty_sQ, ty_mA, ty_mQ, ↓reduceIte, false_and, and_false, true_and, and_true, and_self] at hv
          subst hv
          -- at 34: .if_icmp .ne 7
          have hsz2 : I 7 = tx.length := hX.1
          rw [hsz2]
          refine ty_icmp_ne (pc := 34) (off := 7) (t := 41) (ks := []) (by decide +kernel) (by omega) (by omega) (fun hc => ?_) (fun hc => ?_)
          · refine ty_iconst (pc := 41) (n := 0) (ks := []) (by decide +kernel) ?_
            -- at 42: .ireturn
            refine ty_ret_i (pc := 42) (ks := []) (ty := .boolean) (by decide +kernel) rfl (ty_fit_z (by omega)) ?_
            rw [if_neg (fun q => hc (hz0.mp q)), if_pos hh]
            exact ⟨0, rfl, rfl, g2, rfl⟩
          · refine ty_iconst (pc := 37) (n := 1) (ks := []) (by decide +kernel) ?_
            refine ty_goto (pc := 38) (off := 4) (t := 42) (ks := []) (by decide +kernel) ?_
            -- at 42: .ireturn
            refine ty_ret_i (pc := 42) (ks := []) (ty := .boolean) (by decide +kernel) rfl (ty_fit_z (by omega)) ?_
            rw [if_pos (hz0.mpr hc)]
            exact ⟨1, rfl, rfl, g2, rfl⟩
        · exact absurd rfl hc
end RMT
