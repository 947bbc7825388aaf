/-! The goals that woke; the clauses that fit. -/
theorem mo_at_get {w : Int → Int} : ∀ {l : List Int} {i : Int} {k : Nat} {e : Int}, mo_at w i l → l[k]? = some e → w (i + k) = e
  | [], _, _, _, _, h => by simp at h
  | x :: l, i, 0, e, h, hk => by
    simp only [List.getElem?_cons_zero, Option.some.injEq] at hk
    rw [← hk]
    have := h.1
    simpa using this
  | x :: l, i, k + 1, e, h, hk => by
    simp only [List.getElem?_cons_succ] at hk
    have := mo_at_get h.2 hk
    rw [show i + ((k + 1 : Nat) : Int) = i + 1 + k by omega]
    exact this
def mo_cg (wl : List Int) : List mo_Go := wl.map fun t => (40, t, t, 0)
/-- a program that was read -/
def mo_PW (P : mo_P) : Prop := mo_wf P.1 ∧ P.2.1 ≤ 12 ∧ ∀ i, 0 ≤ i → i < (P.2.1 : Int) → (P.1.2.2.2.2.2 (P.2.2.1 i) ∧ 0 ≤ P.2.2.1 i ∧ P.2.2.1 i < 624) ∧ (P.2.2.2.1 i = P.1.2.2.2.2.1 (P.2.2.1 i / 48) ∧ 0 ≤ P.2.2.2.1 i ∧ P.2.2.2.1 i ≤ 24) ∧ (P.2.2.2.2 i).length ≤ 24
/-- it stands in the class's rows -/
def cs_P (S : ty_S) (P : mo_P) : Prop := cv_g S P.1 ∧ S.2.1 (17, 0) 5 = some (11, 0) ∧ S.1 (17, 0) 6 = P.2.1 ∧ ∀ i, 0 ≤ i → i < (P.2.1 : Int) → ∃ a x, S.2.2.2.1 (11, 0) i = some a ∧ cs_cl a x ∧ cs_co S a x (P.2.2.1 i) (P.2.2.2.1 i) (P.2.2.2.2 i)
theorem cs_P_keep {S S' : ty_S} {P : mo_P} (h : cs_P S P) (hf : cs_f S S') (h1 : S'.2.1 (17, 0) 5 = S.2.1 (17, 0) 5) (h2 : S'.1 (17, 0) 6 = S.1 (17, 0) 6) : cs_P S' P := by
  obtain ⟨a1, a2, a3, a4⟩ := h
  refine ⟨?_, by rw [h1]; exact a2, by rw [h2]; exact a3, fun i i0 i1 => ?_⟩
  · unfold cv_g
    rw [(hf.2.1 (19, 0) (by decide) (by decide)).1, (hf.2.1 (20, 0) (by decide) (by decide)).1, (hf.2.1 (21, 0) (by decide) (by decide)).1, (hf.2.1 (22, 0) (by decide) (by decide)).1]
    exact a1
  · obtain ⟨a, x, q1, q2, q3⟩ := a4 i i0 i1
    exact ⟨a, x, by rw [(hf.2.1 (11, 0) (by decide) (by decide)).2.1 (by decide)]; exact q1, q2, cs_co_keep hf q2 q3⟩
section CSF
variable {L : Nat} {xs : Nat → Int32} {S : ty_S} {D1 D2 : ai_A} {n1 c1 n2 c2 : Nat}
theorem cs_putWoken (d : Nat) {u : Nat} {todo : List mo_Go} {wl : List Int} (hw : S.1 (38, 0) 7 = wl.length ∧ mo_at (S.2.2.1 (42, 0)) 0 wl) (hlen : wl.length ≤ 500) {S0 : ty_S} {u0 : Nat} {E0 : ai_A} {m0 d0 : Nat} (hq0 : cs_Q S0 S u0 E0 m0 d0 D2 n2 c2 u todo D1 n1 c1) (hmx : n1 + 500 < 1000000 ∧ u + 500 < 1000000) :
    ty_W L xs (d + 7) 91 23 [some (.inr (.inr (some (17, 0)))), none] [] S (ty_oV fun S' => ∃ D1' n1' c1', cs_Q S0 S' u0 E0 m0 d0 D2 n2 c2 (u + wl.length) (mo_cg wl ++ todo) D1' n1' c1') := by
  have loop : ∀ (m : Nat) (S1 : ty_S) (E1 : ai_A) (m1 d1 : Nat), m ≤ wl.length → cs_Q S S1 u D1 n1 c1 D2 n2 c2 (u + (wl.length - m)) (mo_cg (wl.drop m) ++ todo) E1 m1 d1 →
      ty_W L xs (d + 7) 91 33 [some (.inr (.inr (some (17, 0)))), some (.inl (ty_J ((m : Int) - 1)))] [] S1 (ty_oV fun S' => ∃ D1' n1' c1', cs_Q S0 S' u0 E0 m0 d0 D2 n2 c2 (u + wl.length) (mo_cg wl ++ todo) D1' n1' c1') := by
    intro m
    induction m with
    | zero =>
      intro S1 E1 m1 d1 hm hq
      refine ty_iload_n (pc := 33) (i := 1) (ks := []) (by decide +kernel) rfl ?_
      -- at 34: .ifCond .lt 34
      refine ty_if_lt (pc := 34) (off := 34) (t := 68) (ks := []) (by decide +kernel) (by omega) (fun hc => ?_) (fun hc => ?_)
      · refine ty_ret_v (pc := 68) (ks := []) (by decide +kernel) rfl ?_
        exact ⟨rfl, E1, m1, d1, hq0.trans hq⟩
      · omega
    | succ m ih =>
      intro S1 E1 m1 d1 hm hq
      have hq1 := hq
      obtain ⟨q1, q2, q3, q4, q5, q6, q7, q8, q9⟩ := hq
      have hS := q1
      have hgl : m < wl.length := by omega
      have hwm : S1.2.2.1 (42, 0) (m : Int) = wl[m] := by
        rw [(q3.2.1 (42, 0) (by decide) (by decide)).1]
        have := mo_at_get hw.2 (k := m) (e := wl[m]) (by simp [hgl])
        rw [Int.zero_add] at this
        exact this
      rw [show ((m + 1 : Nat) : Int) - 1 = m by omega]
      refine ty_iload_n (pc := 33) (i := 1) (ks := []) (by decide +kernel) rfl ?_
      -- at 34: .ifCond .lt 34
      refine ty_if_lt (pc := 34) (off := 34) (t := 68) (ks := []) (by decide +kernel) (by omega) (fun hc => ?_) (fun hc => ?_)
      · omega
      · refine ty_aload_n (pc := 37) (i := 0) (ks := []) (by decide +kernel) rfl ?_
        refine ty_bipush (pc := 38) (n := 40) (ks := []) (by decide +kernel) (by omega) ?_
        refine ty_aload_n (pc := 40) (i := 0) (ks := []) (by decide +kernel) rfl ?_
        refine ty_getS (b := (38, 0)) (pc := 41) (idx := 60) (ci := 5) (f := 3) (by decide +kernel) (by first | rfl | assumption) rfl (by first | exact hS.1 _ _ rfl | assumption) (by first | exact hS.2.2 _ _ _ _ rfl | assumption) ?_
        refine ty_getS (b := (42, 0)) (pc := 44) (idx := 273) (ci := 8) (f := 6) (by decide +kernel) (by first | rfl | assumption) rfl (by first | exact hS.1 _ _ rfl | assumption) (by first | exact hS.2.2 _ _ _ _ rfl | assumption) ?_
        refine ty_iload_n (pc := 47) (i := 1) (ks := []) (by decide +kernel) rfl ?_
        refine ty_iaload (pc := 48) (ks := []) (by decide +kernel) (by first | rfl | assumption) (by rfl) (by first | exact hS.1 _ _ rfl | assumption) (by first | exact hS.2.1 _ _ _ rfl | assumption) (by omega) (fun v hv => ?_)
        subst hv
        refine ty_aload_n (pc := 49) (i := 0) (ks := []) (by decide +kernel) rfl ?_
        refine ty_getS (b := (38, 0)) (pc := 50) (idx := 60) (ci := 5) (f := 3) (by decide +kernel) (by first | rfl | assumption) rfl (by first | exact hS.1 _ _ rfl | assumption) (by first | exact hS.2.2 _ _ _ _ rfl | assumption) ?_
        refine ty_getS (b := (42, 0)) (pc := 53) (idx := 273) (ci := 8) (f := 6) (by decide +kernel) (by first | rfl | assumption) rfl (by first | exact hS.1 _ _ rfl | assumption) (by first | exact hS.2.2 _ _ _ _ rfl | assumption) ?_
        refine ty_iload_n (pc := 56) (i := 1) (ks := []) (by decide +kernel) rfl ?_
        refine ty_iaload (pc := 57) (ks := []) (by decide +kernel) (by first | rfl | assumption) (by rfl) (by first | exact hS.1 _ _ rfl | assumption) (by first | exact hS.2.1 _ _ _ rfl | assumption) (by omega) (fun v hv => ?_)
        subst hv
        refine ty_iconst (pc := 58) (n := 0) (ks := []) (by decide +kernel) ?_
        -- at 59: .invokevirtual 201
        rw [hwm]
        refine ty_callv (pc := 59) (idx := 201) (m := 45) (n := 5) (c := 5) (vs := [_, _, _, _]) (r := []) (by decide +kernel) rfl rfl (Nat.le_of_ble_eq_true rfl) (by first | rfl | assumption) (by first | exact hS.1 _ _ rfl | assumption) (cs_put1 d (g := (40, wl[m], wl[m], 0)) q1 q2 q5.1 (by omega) (by omega) q5.2 (show (0 : Int) ≤ 40 ∧ (40 : Int) ≤ 65535 by decide)) ?_
        rintro _ S4 ⟨rfl, E2, m2, d2, hq2⟩
        refine ty_KV ?_
        have hq3 := hq1.trans hq2
        refine ty_iinc (pc := 62) (i := 1) (n := (-1)) (ks := []) (ls' := [_, _]) (by decide +kernel) rfl rfl ?_
        refine ty_goto (pc := 65) (off := (-32)) (t := 33) (ks := []) (by decide +kernel) ?_
        -- at 33: .iload_n 1
        have hdr : wl.drop m = wl[m] :: wl.drop (m + 1) := List.drop_eq_getElem_cons hgl
        have := ih S4 E2 m2 d2 (by omega) (by
          rw [hdr, show u + (wl.length - m) = u + (wl.length - (m + 1)) + 1 by omega]
          exact hq3)
        rw [show (m : Int) - 1 = (m : Int) + -1 by omega] at this
        exact this
  have hS := hq0.1
  refine ty_aload_n (pc := 23) (i := 0) (ks := []) (by decide +kernel) rfl ?_
  refine ty_getS (b := (38, 0)) (pc := 24) (idx := 60) (ci := 5) (f := 3) (by decide +kernel) (by first | rfl | assumption) rfl (by first | exact hS.1 _ _ rfl | assumption) (by first | exact hS.2.2 _ _ _ _ rfl | assumption) ?_
  refine ty_getI (pc := 27) (idx := 270) (ci := 8) (f := 7) (by decide +kernel) (by first | rfl | assumption) rfl (by first | exact hS.1 _ _ rfl | assumption) (fun v hv => ?_)
  subst hv
  refine ty_iconst (pc := 30) (n := 1) (ks := []) (by decide +kernel) ?_
  refine ty_isub (pc := 31) (ks := []) (by decide +kernel) ?_
  refine ty_istore_n (pc := 32) (i := 1) (ks := []) (ls' := [_, _]) (by decide +kernel) rfl ?_
  -- at 33: .iload_n 1
  rw [hw.1]
  refine loop wl.length S D1 n1 c1 (Nat.le_refl _) ?_
  rw [List.drop_length, Nat.sub_self, Nat.add_zero]
  exact cs_Q.refl hq0.1 hq0.2.1 hq0.2.2.2.2.1.1 hq0.2.2.2.2.2.1.2.1 hq0.2.2.2.2.1.2
theorem cs_putInFront (d : Nat) (hS : ty_st S) (hL : cs_L S D1 n1 c1 D2 n2 c2) {u : Nat} {todo : List mo_Go} (hu : S.1 (17, 0) 8 = u) (hle : u ≤ n1) (hmx : n1 + 600 < 1000000) (ht : cs_td S u (S.2.1 (17, 0) 9) todo) {wl : List Int} (hw : S.1 (38, 0) 7 = wl.length ∧ mo_at (S.2.2.1 (42, 0)) 0 wl) (hlen : wl.length ≤ 500)
    {tk : Option ai_A} (htk : S.2.1 (17, 0) 13 = tk) {x : Nat} {start nv base bar : Int} {gs : List (Int × Int × Int)} (hb : S.1 (17, 0) 14 = base ∧ S.1 (17, 0) 15 = bar) (hco : ∀ a, tk = some a → cs_cl a x ∧ cs_co S a x start nv gs) (hno : tk = none → gs = []) :
    ty_C L xs (d + 9) 91 [.inr (.inr (some (17, 0)))] S (ty_oV fun S' => ∃ D1' n1' c1', cs_Q S S' u D1 n1 c1 D2 n2 c2 (u + gs.length + wl.length) (mo_cg wl ++ (mo_bd gs base bar ++ todo)) D1' n1' c1') := by
  refine ty_enter (ml := 2) (ls := [_, _]) rfl rfl (Nat.le_of_ble_eq_true rfl) ?_
  cases tk with
  | none =>
    have hg := hno rfl
    subst hg
    refine ty_aload_n (pc := 0) (i := 0) (ks := []) (by decide +kernel) rfl ?_
    refine ty_getR (pc := 1) (idx := 104) (ci := 5) (f := 13) (by decide +kernel) (by rfl) rfl (hS.1 _ _ rfl) (fun v hv => ?_)
    rw [htk] at hv
    subst hv
    refine ty_ifnull (pc := 4) (off := 19) (t := 23) (ks := []) (by decide +kernel) (fun hc => ?_) (fun hc => ?_)
    · simp only [List.length_nil, Nat.add_zero, mo_bd, List.map_nil, List.nil_append]
      exact cs_putWoken (d + 1) hw hlen (cs_Q.refl hS hL hu hle ht) (by omega)
    · exact absurd rfl hc
  | some a =>
    obtain ⟨h1, h2⟩ := hco a rfl
    have h24 := h2.2.2.2.1
    refine ty_aload_n (pc := 0) (i := 0) (ks := []) (by decide +kernel) rfl ?_
    refine ty_getS (pc := 1) (idx := 104) (ci := 5) (f := 13) (by decide +kernel) (by rfl) rfl (hS.1 _ _ rfl) htk ?_
    refine ty_ifnull (pc := 4) (off := 19) (t := 23) (ks := []) (by decide +kernel) (fun hc => ?_) (fun hc => ?_)
    · cases hc
    · refine ty_aload_n (pc := 7) (i := 0) (ks := []) (by decide +kernel) rfl ?_
      refine ty_aload_n (pc := 8) (i := 0) (ks := []) (by decide +kernel) rfl ?_
      refine ty_getS (pc := 9) (idx := 104) (ci := 5) (f := 13) (by decide +kernel) (by rfl) rfl (hS.1 _ _ rfl) htk ?_
      refine ty_aload_n (pc := 12) (i := 0) (ks := []) (by decide +kernel) rfl ?_
      refine ty_getI (pc := 13) (idx := 34) (ci := 5) (f := 14) (by decide +kernel) (by first | rfl | assumption) rfl (by first | exact hS.1 _ _ rfl | assumption) (fun v hv => ?_)
      subst hv
      refine ty_aload_n (pc := 16) (i := 0) (ks := []) (by decide +kernel) rfl ?_
      refine ty_getI (pc := 17) (idx := 37) (ci := 5) (f := 15) (by decide +kernel) (by first | rfl | assumption) rfl (by first | exact hS.1 _ _ rfl | assumption) (fun v hv => ?_)
      subst hv
      -- at 20: .invokevirtual 98
      rw [hb.1, hb.2]
      refine ty_callv (pc := 20) (idx := 98) (m := 43) (n := 4) (c := 5) (vs := [_, _, _]) (r := []) (by decide +kernel) rfl rfl (Nat.le_of_ble_eq_true rfl) (by first | rfl | assumption) (by first | exact hS.1 _ _ rfl | assumption) (cs_putBody d hS hL hu hle (by omega) ht h1 h2) ?_
      rintro _ S1 ⟨rfl, E1, m1, d1, hq⟩
      refine ty_KV ?_
      have hq' := hq
      obtain ⟨q1, q2, q3, q4, q5, q6, q7, q8, q9⟩ := hq
      have hw1 : S1.1 (38, 0) 7 = wl.length ∧ mo_at (S1.2.2.1 (42, 0)) 0 wl := by
        rw [(q3.1 (38, 0) (by decide) (by decide) (by decide) (by decide) (by decide) _).1, (q3.2.1 (42, 0) (by decide) (by decide)).1]
        exact hw
      refine cs_putWoken (d + 1) hw1 hlen hq' ?_
      omega
/-- the next clause that fits a call -/
theorem cs_findClause (d : Nat) (hS : ty_st S) {P : mo_P} (hP : cs_P S P) (hW : mo_PW P) {made t fr : Int} (ht : mo_ok P.1 made t) (hmade : made ≤ 100000) (hfr : 0 ≤ fr ∧ fr ≤ 100) :
    ty_C L xs (d + 2) 65 [.inr (.inr (some (17, 0))), .inl (ty_J t), .inl (ty_J fr)] S (ty_oI fun z S' => z = mo_next P t fr ∧ S' = S) := by
  obtain ⟨p1, p2, p3, p4⟩ := hP
  obtain ⟨w1, w2, w3⟩ := hW
  have ht1 := mo_ok_le w1 ht
  have ht0 := ht.1
  have lt := (w1 _ ht.2.1).2.1
  have at_ := (w1 _ ht.2.1).2.2.1
  have hlt : S.2.2.1 (19, 0) (t % 624) = mo_l P.1 t := by rw [p1.1]; rfl
  have hat : S.2.2.1 (20, 0) (t % 624) = mo_a P.1 t := by rw [p1.2.1]; rfl
  have lt : 0 ≤ mo_l P.1 t ∧ mo_l P.1 t ≤ 65535 := lt
  have at_ : 0 ≤ mo_a P.1 t ∧ mo_a P.1 t ≤ 3 := at_
  have loop : ∀ (m : Nat) (i : Int) (x4 : Option ai_V), m = ((P.2.1 : Int) - i).toNat → 0 ≤ i → i ≤ 100 → ty_W L xs (d + 1) 65 2 [some (.inr (.inr (some (17, 0)))), some (.inl (ty_J t)), some (.inl (ty_J fr)), some (.inl (ty_J i)), x4] [] S (ty_oI fun z S' => z = mo_find P t m i ∧ S' = S) := by
    intro m
    induction m with
    | zero =>
      intro i x4 hm h0 h1
      refine ty_iload_n (pc := 2) (i := 3) (ks := []) (by decide +kernel) rfl ?_
      refine ty_aload_n (pc := 3) (i := 0) (ks := []) (by decide +kernel) rfl ?_
      refine ty_getI (pc := 4) (idx := 9) (ci := 5) (f := 6) (by decide +kernel) (by first | rfl | assumption) rfl (by first | exact hS.1 _ _ rfl | assumption) (fun v hv => ?_)
      subst hv
      -- at 7: .if_icmp .ge 62
      rw [p3]
      refine ty_icmp_ge (pc := 7) (off := 62) (t := 69) (ks := []) (by decide +kernel) (by omega) (by omega) (fun hc => ?_) (fun hc => ?_)
      · refine ty_iconst (pc := 69) (n := (-1)) (ks := []) (by decide +kernel) ?_
        -- at 70: .ireturn
        refine ty_ret_i (pc := 70) (ks := []) (ty := .int) (by decide +kernel) rfl rfl ?_
        exact ⟨_, rfl, rfl, rfl⟩
      · omega
    | succ m ih =>
      intro i x4 hm h0 h1
      obtain ⟨a, x, q1, q2, q3⟩ := p4 i h0 (by omega)
      obtain ⟨⟨g1, g2, g3⟩, -, -⟩ := w3 i h0 (by omega)
      obtain ⟨f1, f2, -⟩ := cs_cl_facts hS q2
      have es : P.2.2.1 i % 624 = P.2.2.1 i := by omega
      have ls : 0 ≤ P.1.1 (P.2.2.1 i) ∧ P.1.1 (P.2.2.1 i) ≤ 65535 := (w1 _ g1).2.1
      have as : 0 ≤ P.1.2.1 (P.2.2.1 i) ∧ P.1.2.1 (P.2.2.1 i) ≤ 3 := (w1 _ g1).2.2.1
      have hls : S.2.2.1 (19, 0) (P.2.2.1 i % 624) = mo_l P.1 (P.2.2.1 i) := by rw [p1.1]; rfl
      have has : S.2.2.1 (20, 0) (P.2.2.1 i % 624) = mo_a P.1 (P.2.2.1 i) := by rw [p1.2.1]; rfl
      have ls : 0 ≤ mo_l P.1 (P.2.2.1 i) ∧ mo_l P.1 (P.2.2.1 i) ≤ 65535 := by unfold mo_l; rw [es]; exact ls
      have as : 0 ≤ mo_a P.1 (P.2.2.1 i) ∧ mo_a P.1 (P.2.2.1 i) ≤ 3 := by unfold mo_a; rw [es]; exact as
      unfold mo_find
      have cont : ∀ x4, ¬ mo_fits P t i = true → ty_W L xs (d + 1) 65 63 [some (.inr (.inr (some (17, 0)))), some (.inl (ty_J t)), some (.inl (ty_J fr)), some (.inl (ty_J i)), x4] [] S (ty_oI fun z S' => z = (if mo_fits P t i = true then i else mo_find P t m (i + 1)) ∧ S' = S) := by
        intro x4 hn
        rw [if_neg hn]
        refine ty_iinc (pc := 63) (i := 3) (n := 1) (ks := []) (ls' := [_, _, _, _, _]) (by decide +kernel) rfl rfl ?_
        refine ty_goto (pc := 66) (off := (-64)) (t := 2) (ks := []) (by decide +kernel) ?_
        -- at 2: .iload_n 3
        exact ih (i + 1) x4 (by omega) (by omega) (by omega)
      refine ty_iload_n (pc := 2) (i := 3) (ks := []) (by decide +kernel) rfl ?_
      refine ty_aload_n (pc := 3) (i := 0) (ks := []) (by decide +kernel) rfl ?_
      refine ty_getI (pc := 4) (idx := 9) (ci := 5) (f := 6) (by decide +kernel) (by first | rfl | assumption) rfl (by first | exact hS.1 _ _ rfl | assumption) (fun v hv => ?_)
      subst hv
      -- at 7: .if_icmp .ge 62
      rw [p3]
      refine ty_icmp_ge (pc := 7) (off := 62) (t := 69) (ks := []) (by decide +kernel) (by omega) (by omega) (fun hc => ?_) (fun hc => ?_)
      · omega
      · refine ty_aload_n (pc := 10) (i := 0) (ks := []) (by decide +kernel) rfl ?_
        refine ty_getS (pc := 11) (idx := 73) (ci := 5) (f := 5) (by decide +kernel) (by rfl) rfl (hS.1 _ _ rfl) p2 ?_
        refine ty_iload_n (pc := 14) (i := 3) (ks := []) (by decide +kernel) rfl ?_
        refine ty_aaload (pc := 15) (ks := []) (by decide +kernel) (by rfl) (by rfl) (hS.1 _ _ rfl) (hS.2.1 _ _ _ rfl) (by omega) (fun v hv => ?_)
        rw [q1] at hv
        subst hv
        refine ty_getI (pc := 16) (idx := 215) (ci := 3) (f := 0) (by decide +kernel) f1 rfl f2 (fun v hv => ?_)
        rw [q3.1] at hv
        subst hv
        refine ty_istore (pc := 19) (i := 4) (ks := []) (ls' := [_, _, _, _, _]) (by decide +kernel) rfl ?_
        refine ty_aload_n (pc := 21) (i := 0) (ks := []) (by decide +kernel) rfl ?_
        refine ty_getS (b := (12, 0)) (pc := 22) (idx := 48) (ci := 5) (f := 0) (by decide +kernel) (by first | rfl | assumption) rfl (by first | exact hS.1 _ _ rfl | assumption) (by first | exact hS.2.2 _ _ _ _ rfl | assumption) ?_
        refine ty_iload (pc := 25) (i := 4) (ks := []) (by decide +kernel) rfl ?_
        -- at 27: .invokevirtual 185
        refine ty_callv (pc := 27) (idx := 185) (m := 66) (n := 2) (c := 1) (vs := [_]) (r := []) (by decide +kernel) rfl rfl (Nat.le_of_ble_eq_true rfl) (by first | rfl | assumption) (by first | exact hS.1 _ _ rfl | assumption) (ct_letterOf _ hS (by omega) (by rw [hls]; exact ls)) ?_
        rintro _ S1 ⟨z, rfl, rfl, rfl⟩
        rw [hls]
        refine ty_KI ?_
        refine ty_aload_n (pc := 30) (i := 0) (ks := []) (by decide +kernel) rfl ?_
        refine ty_getS (b := (12, 0)) (pc := 31) (idx := 48) (ci := 5) (f := 0) (by decide +kernel) (by first | rfl | assumption) rfl (by first | exact hS.1 _ _ rfl | assumption) (by first | exact hS.2.2 _ _ _ _ rfl | assumption) ?_
        refine ty_iload_n (pc := 34) (i := 1) (ks := []) (by decide +kernel) rfl ?_
        -- at 35: .invokevirtual 185
        refine ty_callv (pc := 35) (idx := 185) (m := 66) (n := 2) (c := 1) (vs := [_]) (r := [_]) (by decide +kernel) rfl rfl (Nat.le_of_ble_eq_true rfl) (by first | rfl | assumption) (by first | exact hS.1 _ _ rfl | assumption) (ct_letterOf _ hS (by omega) (by rw [hlt]; exact lt)) ?_
        rintro _ S2 ⟨z, rfl, rfl, rfl⟩
        rw [hlt]
        refine ty_KI ?_
        refine ty_icmp_ne (pc := 38) (off := 25) (t := 63) (ks := []) (by decide +kernel) (by omega) (by omega) (fun hc => ?_) (fun hc => ?_)
        · exact cont _ (fun z => by
            simp only [mo_fits, Bool.and_eq_true, decide_eq_true_eq] at z
            exact hc z.1)
        · have hcl := hc
          refine ty_aload_n (pc := 41) (i := 0) (ks := []) (by decide +kernel) rfl ?_
          refine ty_getS (b := (12, 0)) (pc := 42) (idx := 48) (ci := 5) (f := 0) (by decide +kernel) (by first | rfl | assumption) rfl (by first | exact hS.1 _ _ rfl | assumption) (by first | exact hS.2.2 _ _ _ _ rfl | assumption) ?_
          refine ty_iload (pc := 45) (i := 4) (ks := []) (by decide +kernel) rfl ?_
          -- at 47: .invokevirtual 218
          refine ty_callv (pc := 47) (idx := 218) (m := 67) (n := 2) (c := 1) (vs := [_]) (r := []) (by decide +kernel) rfl rfl (Nat.le_of_ble_eq_true rfl) (by first | rfl | assumption) (by first | exact hS.1 _ _ rfl | assumption) (ct_arityOf _ hS (by omega)) ?_
          rintro _ S3 ⟨z, rfl, rfl, rfl⟩
          rw [has]
          refine ty_KI ?_
          refine ty_aload_n (pc := 50) (i := 0) (ks := []) (by decide +kernel) rfl ?_
          refine ty_getS (b := (12, 0)) (pc := 51) (idx := 48) (ci := 5) (f := 0) (by decide +kernel) (by first | rfl | assumption) rfl (by first | exact hS.1 _ _ rfl | assumption) (by first | exact hS.2.2 _ _ _ _ rfl | assumption) ?_
          refine ty_iload_n (pc := 54) (i := 1) (ks := []) (by decide +kernel) rfl ?_
          -- at 55: .invokevirtual 218
          refine ty_callv (pc := 55) (idx := 218) (m := 67) (n := 2) (c := 1) (vs := [_]) (r := [_]) (by decide +kernel) rfl rfl (Nat.le_of_ble_eq_true rfl) (by first | rfl | assumption) (by first | exact hS.1 _ _ rfl | assumption) (ct_arityOf _ hS (by omega)) ?_
          rintro _ S4 ⟨z, rfl, rfl, rfl⟩
          rw [hat]
          refine ty_KI ?_
          refine ty_icmp_ne (pc := 58) (off := 5) (t := 63) (ks := []) (by decide +kernel) (by omega) (by omega) (fun hc => ?_) (fun hc => ?_)
          · exact cont _ (fun z => by
              simp only [mo_fits, Bool.and_eq_true, decide_eq_true_eq] at z
              exact hc z.2)
          · have hfit : mo_fits P t i = true := by
              simp only [mo_fits, Bool.and_eq_true, decide_eq_true_eq]
              exact ⟨hcl, hc⟩
            rw [if_pos hfit]
            refine ty_iload_n (pc := 61) (i := 3) (ks := []) (by decide +kernel) rfl ?_
            -- at 62: .ireturn
            refine ty_ret_i (pc := 62) (ks := []) (ty := .int) (by decide +kernel) rfl rfl ?_
            exact ⟨_, rfl, rfl, rfl⟩
  refine ty_enter (ml := 5) (ls := [_, _, _, _, _]) rfl rfl (Nat.le_of_ble_eq_true rfl) ?_
  refine ty_iload_n (pc := 0) (i := 2) (ks := []) (by decide +kernel) rfl ?_
  refine ty_istore_n (pc := 1) (i := 3) (ks := []) (ls' := [_, _, _, _, _]) (by decide +kernel) rfl ?_
  -- at 2: .iload_n 3
  exact loop _ fr none rfl hfr.1 hfr.2
end CSF
