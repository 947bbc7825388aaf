/-! Goals in front, many of them. -/
/-- from u goals in use to u', with gs' to do -/
def cs_Q (S S' : ty_S) (u : Nat) (D1 : ai_A) (n1 c1 : Nat) (D2 : ai_A) (n2 c2 u' : Nat) (gs' : List mo_Go) (D1' : ai_A) (n1' c1' : Nat) : Prop := ty_st S' ∧ cs_L S' D1' n1' c1' D2 n2 c2 ∧ cs_f S S' ∧ ((∀ j, j ≠ 8 → S'.1 (17, 0) j = S.1 (17, 0) j) ∧ ∀ j, j ≠ 9 → S'.2.1 (17, 0) j = S.2.1 (17, 0) j) ∧ (S'.1 (17, 0) 8 = u' ∧ cs_td S' u' (S'.2.1 (17, 0) 9) gs') ∧ (u ≤ u' ∧ u' ≤ n1' ∧ n1 ≤ n1' ∧ (n1' = n1 ∨ n1' ≤ u')) ∧
  (∀ i, i < u → ∀ j, S'.1 (49, i) j = S.1 (49, i) j ∧ S'.2.1 (49, i) j = S.2.1 (49, i) j) ∧ (∀ i j, S'.1 (52, i) j = S.1 (52, i) j ∧ S'.2.1 (52, i) j = S.2.1 (52, i) j) ∧ ∀ K n th, cs_k S K n1 c1 n2 c2 n th → cs_k S' K n1' c1' n2 c2 n th
section CSB
variable {L : Nat} {xs : Nat → Int32} {S : ty_S} {D1 D2 : ai_A} {n1 c1 n2 c2 : Nat}
theorem cs_Q.trans {S1 S2 : ty_S} {u u1 u2 : Nat} {g1 g2 : List mo_Go} {E1 E2 : ai_A} {m1 m2 d1 d2 : Nat} (h : cs_Q S S1 u D1 n1 c1 D2 n2 c2 u1 g1 E1 m1 d1) (g : cs_Q S1 S2 u1 E1 m1 d1 D2 n2 c2 u2 g2 E2 m2 d2) : cs_Q S S2 u D1 n1 c1 D2 n2 c2 u2 g2 E2 m2 d2 := by
  obtain ⟨a1, a2, a3, a4, a5, a6, a7, a8, a9⟩ := h
  obtain ⟨b1, b2, b3, b4, b5, b6, b7, b8, b9⟩ := g
  exact ⟨b1, b2, a3.trans b3, ⟨fun j hj => (b4.1 j hj).trans (a4.1 j hj), fun j hj => (b4.2 j hj).trans (a4.2 j hj)⟩, b5, by omega, fun i hi j => ⟨(b7 i (by omega) j).1.trans (a7 i hi j).1, (b7 i (by omega) j).2.trans (a7 i hi j).2⟩, fun i j => ⟨(b8 i j).1.trans (a8 i j).1, (b8 i j).2.trans (a8 i j).2⟩, fun K n th z => b9 K n th (a9 K n th z)⟩
theorem cs_Q.refl (hS : ty_st S) (hL : cs_L S D1 n1 c1 D2 n2 c2) {u : Nat} {gs : List mo_Go} (hu : S.1 (17, 0) 8 = u) (hle : u ≤ n1) (ht : cs_td S u (S.2.1 (17, 0) 9) gs) : cs_Q S S u D1 n1 c1 D2 n2 c2 u gs D1 n1 c1 :=
  ⟨hS, hL, cs_f.refl, ⟨fun _ _ => rfl, fun _ _ => rfl⟩, ⟨hu, ht⟩, ⟨Nat.le_refl _, hle, Nat.le_refl _, .inl rfl⟩, fun _ _ _ => ⟨rfl, rfl⟩, fun _ _ => ⟨rfl, rfl⟩, fun _ _ _ z => z⟩
theorem cs_put1 (d : Nat) (hS : ty_st S) (hL : cs_L S D1 n1 c1 D2 n2 c2) {u : Nat} {gs : List mo_Go} (hu : S.1 (17, 0) 8 = u) (hle : u ≤ n1) (hmx : n1 < 1000000) (ht : cs_td S u (S.2.1 (17, 0) 9) gs) {g : mo_Go} (hg : 0 ≤ g.1 ∧ g.1 ≤ 65535) :
    ty_C L xs (d + 7) 45 [.inr (.inr (some (17, 0))), .inl (ty_J g.1), .inl (ty_J g.2.1), .inl (ty_J g.2.2.1), .inl (ty_J g.2.2.2)] S (ty_oV fun S' => ∃ D1' n1' c1', cs_Q S S' u D1 n1 c1 D2 n2 c2 (u + 1) (g :: gs) D1' n1' c1') := by
  refine (cs_putGoal d hS hL hu hle hmx hg).mono ?_
  rintro o S' ⟨rfl, D1', n1', c1', p1, p2, p3, p4, p5, p6, p7, p8, p9, p10⟩
  refine ⟨rfl, D1', n1', c1', p1, p2, p4, ⟨fun j hj => by rw [p5, if_neg hj], fun j hj => by rw [p6, if_neg hj]⟩, ⟨by rw [p5, if_pos rfl]; rfl, ?_⟩, by omega, p8, p9, p10⟩
  rw [p6, if_pos rfl]
  refine ⟨u, by omega, rfl, ⟨p7.1, p7.2.1, p7.2.2.1, p7.2.2.2.1⟩, ?_⟩
  rw [p7.2.2.2.2]
  exact cs_td_eq p8 ht
/-- where a clause lies: x counts them, 12 is the question -/
def cs_cl (a : ai_A) (x : Nat) : Prop := (a = (14, x) ∧ x < 12) ∨ (a = (15, 0) ∧ x = 12)
theorem cs_cl_facts (hS : ty_st S) {a : ai_A} {x : Nat} (h : cs_cl a x) : ty_sk a.1 = (1, 3) ∧ a.2 < S.2.2.2.2.2.2.1 a.1 ∧ (S.2.1 a 1 = some (31, x) ∧ S.2.1 a 2 = some (32, x) ∧ S.2.1 a 3 = some (33, x) ∧ S.2.1 a 5 = some (34, x)) ∧ (x < S.2.2.2.2.2.2.1 31 ∧ x < S.2.2.2.2.2.2.1 32 ∧ x < S.2.2.2.2.2.2.1 33 ∧ x < S.2.2.2.2.2.2.1 34) ∧ S.2.2.2.2.2.1 (31, x) = 24 ∧ S.2.2.2.2.2.1 (32, x) = 24 ∧ S.2.2.2.2.2.1 (33, x) = 24 ∧ S.2.2.2.2.2.1 (34, x) = 26 := by
  have hp : ∀ s x, x < 13 → (s = 31 ∨ s = 32 ∨ s = 33 ∨ s = 34) → x < S.2.2.2.2.2.2.1 s := by
    intro s x hx hs
    have h12 : 12 < S.2.2.2.2.2.2.1 s := hS.1 s 12 (by rcases hs with rfl | rfl | rfl | rfl <;> decide +kernel)
    omega
  have hl : S.2.2.2.2.2.1 (31, x) = 24 ∧ S.2.2.2.2.2.1 (32, x) = 24 ∧ S.2.2.2.2.2.1 (33, x) = 24 ∧ S.2.2.2.2.2.1 (34, x) = 26 := ⟨hS.2.1 31 x 24 (by decide +kernel), hS.2.1 32 x 24 (by decide +kernel), hS.2.1 33 x 24 (by decide +kernel), hS.2.1 34 x 26 (by decide +kernel)⟩
  rcases h with ⟨rfl, hx⟩ | ⟨rfl, rfl⟩
  · refine ⟨by show ty_sk 14 = (1, 3); decide +kernel, ?_, ⟨hS.2.2 14 x 1 _ rfl, hS.2.2 14 x 2 _ rfl, hS.2.2 14 x 3 _ rfl, hS.2.2 14 x 5 _ rfl⟩, ⟨hp 31 x (by omega) (by simp), hp 32 x (by omega) (by simp), hp 33 x (by omega) (by simp), hp 34 x (by omega) (by simp)⟩, hl⟩
    have h11 : 11 < S.2.2.2.2.2.2.1 14 := hS.1 14 11 (by decide +kernel)
    show x < S.2.2.2.2.2.2.1 14
    omega
  · exact ⟨by show ty_sk 15 = (1, 3); decide +kernel, hS.1 15 0 rfl, ⟨hS.2.2 15 0 1 _ rfl, hS.2.2 15 0 2 _ rfl, hS.2.2 15 0 3 _ rfl, hS.2.2 15 0 5 _ rfl⟩, ⟨hp 31 12 (by omega) (by simp), hp 32 12 (by omega) (by simp), hp 33 12 (by omega) (by simp), hp 34 12 (by omega) (by simp)⟩, hl⟩
/-- what stands in a clause -/
def cs_co (S : ty_S) (a : ai_A) (x : Nat) (start nv : Int) (gs : List (Int × Int × Int)) : Prop := S.1 a 0 = start ∧ S.1 a 6 = nv ∧ S.1 a 4 = gs.length ∧ gs.length ≤ 24 ∧ ∀ (i : Nat) (g : Int × Int × Int), gs[i]? = some g → (S.2.2.1 (31, x) i = g.1 ∧ 0 ≤ g.1 ∧ g.1 ≤ 65535) ∧ S.2.2.1 (32, x) i = g.2.1 ∧ S.2.2.1 (33, x) i = g.2.2
theorem cs_co_keep {S' : ty_S} (hf : cs_f S S') {a : ai_A} {x : Nat} (hx : cs_cl a x) {start nv : Int} {gs : List (Int × Int × Int)} (h : cs_co S a x start nv gs) : cs_co S' a x start nv gs := by
  have ha : ∀ j, S'.1 a j = S.1 a j := fun j => by
    rcases hx with ⟨rfl, -⟩ | ⟨rfl, -⟩
    · exact (hf.1 (14, x) (by simp) (by simp) (by simp) (by simp) (by simp) j).1
    · exact (hf.1 (15, 0) (by decide) (by decide) (by decide) (by decide) (by decide) j).1
  unfold cs_co
  rw [ha, ha, ha, (hf.2.1 (31, x) (by simp) (by simp)).1, (hf.2.1 (32, x) (by simp) (by simp)).1, (hf.2.1 (33, x) (by simp) (by simp)).1]
  exact h
theorem cs_putBody (d : Nat) (hS : ty_st S) (hL : cs_L S D1 n1 c1 D2 n2 c2) {u : Nat} {todo : List mo_Go} (hu : S.1 (17, 0) 8 = u) (hle : u ≤ n1) (hmx : n1 + 24 < 1000000 ∧ u + 24 < 1000000) (ht : cs_td S u (S.2.1 (17, 0) 9) todo) {a : ai_A} {x : Nat} (hx : cs_cl a x) {start nv base bar : Int} {gs : List (Int × Int × Int)} (hco : cs_co S a x start nv gs) :
    ty_C L xs (d + 8) 43 [.inr (.inr (some (17, 0))), .inr (.inr (some a)), .inl (ty_J base), .inl (ty_J bar)] S (ty_oV fun S' => ∃ D1' n1' c1', cs_Q S S' u D1 n1 c1 D2 n2 c2 (u + gs.length) (mo_bd gs base bar ++ todo) D1' n1' c1') := by
  have loop : ∀ (m : Nat) (S1 : ty_S) (E1 : ai_A) (m1 d1 : Nat) (x5 : Option ai_V), m ≤ gs.length → cs_Q S S1 u D1 n1 c1 D2 n2 c2 (u + (gs.length - m)) (mo_bd (gs.drop m) base bar ++ todo) E1 m1 d1 →
      ty_W L xs (d + 7) 43 8 [some (.inr (.inr (some (17, 0)))), some (.inr (.inr (some a))), some (.inl (ty_J base)), some (.inl (ty_J bar)), some (.inl (ty_J ((m : Int) - 1))), x5] [] S1 (ty_oV fun S' => ∃ D1' n1' c1', cs_Q S S' u D1 n1 c1 D2 n2 c2 (u + gs.length) (mo_bd gs base bar ++ todo) D1' n1' c1') := by
    intro m
    induction m with
    | zero =>
      intro S1 E1 m1 d1 x5 hm hq
      refine ty_iload (pc := 8) (i := 4) (ks := []) (by decide +kernel) rfl ?_
      -- at 10: .ifCond .lt 55
      refine ty_if_lt (pc := 10) (off := 55) (t := 65) (ks := []) (by decide +kernel) (by omega) (fun hc => ?_) (fun hc => ?_)
      · refine ty_ret_v (pc := 65) (ks := []) (by decide +kernel) rfl ?_
        exact ⟨rfl, E1, m1, d1, hq⟩
      · omega
    | succ m ih =>
      intro S1 E1 m1 d1 x5 hm hq
      have hq0 := hq
      obtain ⟨q1, q2, q3, q4, q5, q6, q7, q8, q9⟩ := hq
      have hS := q1
      obtain ⟨f1, f2, ⟨f3, f4, f5, -⟩, ⟨f7, f8, f9, -⟩, f11, f12, f13, -⟩ := cs_cl_facts q1 hx
      have hco1 := cs_co_keep q3 hx hco
      obtain ⟨k1, k2, k3, k4, k5⟩ := hco1
      have hgl : m < gs.length := by omega
      obtain ⟨h1, h2, h3⟩ := k5 m gs[m] (by simp [hgl])
      have p31 : ((31, x) : ai_A).2 < S1.2.2.2.2.2.2.1 ((31, x) : ai_A).1 := f7
      have p32 : ((32, x) : ai_A).2 < S1.2.2.2.2.2.2.1 ((32, x) : ai_A).1 := f8
      have p33 : ((33, x) : ai_A).2 < S1.2.2.2.2.2.2.1 ((33, x) : ai_A).1 := f9
      have s31 : ty_sk ((31, x) : ai_A).1 = (2, 1) := by show ty_sk 31 = (2, 1); decide +kernel
      have s32 : ty_sk ((32, x) : ai_A).1 = (2, 0) := by show ty_sk 32 = (2, 0); decide +kernel
      have s33 : ty_sk ((33, x) : ai_A).1 = (2, 0) := by show ty_sk 33 = (2, 0); decide +kernel
      rw [show ((m + 1 : Nat) : Int) - 1 = m by omega]
      refine ty_iload (pc := 8) (i := 4) (ks := []) (by decide +kernel) rfl ?_
      -- at 10: .ifCond .lt 55
      refine ty_if_lt (pc := 10) (off := 55) (t := 65) (ks := []) (by decide +kernel) (by omega) (fun hc => ?_) (fun hc => ?_)
      · omega
      · refine ty_aload_n (pc := 13) (i := 0) (ks := []) (by decide +kernel) rfl ?_
        refine ty_getS (b := (12, 0)) (pc := 14) (idx := 48) (ci := 5) (f := 0) (by decide +kernel) (by first | rfl | assumption) rfl (by first | exact hS.1 _ _ rfl | assumption) (by first | exact hS.2.2 _ _ _ _ rfl | assumption) ?_
        refine ty_aload_n (pc := 17) (i := 1) (ks := []) (by decide +kernel) rfl ?_
        refine ty_getS (pc := 18) (idx := 280) (ci := 3) (f := 2) (by decide +kernel) (by first | rfl | assumption) rfl (by first | exact hS.1 _ _ rfl | assumption) (by first | exact hS.2.2 _ _ _ _ rfl | assumption) ?_
        refine ty_iload (pc := 21) (i := 4) (ks := []) (by decide +kernel) rfl ?_
        -- at 23: .iaload
        refine ty_iaload (pc := 23) (ks := []) (by decide +kernel) s32 (by rfl) p32 f12 (by omega) (fun v hv => ?_)
        rw [h2] at hv
        subst hv
        refine ty_iload_n (pc := 24) (i := 2) (ks := []) (by decide +kernel) rfl ?_
        -- at 25: .invokevirtual 264
        refine ty_callv (pc := 25) (idx := 264) (m := 44) (n := 3) (c := 1) (vs := [_, _]) (r := []) (by decide +kernel) rfl rfl (Nat.le_of_ble_eq_true rfl) (by first | rfl | assumption) (by first | exact hS.1 _ _ rfl | assumption) (ct_termOf _) ?_
        rintro _ S2 ⟨z, rfl, rfl, rfl⟩
        refine ty_KI ?_
        refine ty_istore (pc := 28) (i := 5) (ks := []) (ls' := [_, _, _, _, _, _]) (by decide +kernel) rfl ?_
        refine ty_aload_n (pc := 30) (i := 0) (ks := []) (by decide +kernel) rfl ?_
        refine ty_aload_n (pc := 31) (i := 1) (ks := []) (by decide +kernel) rfl ?_
        refine ty_getS (pc := 32) (idx := 282) (ci := 3) (f := 1) (by decide +kernel) (by first | rfl | assumption) rfl (by first | exact hS.1 _ _ rfl | assumption) (by first | exact hS.2.2 _ _ _ _ rfl | assumption) ?_
        refine ty_iload (pc := 35) (i := 4) (ks := []) (by decide +kernel) rfl ?_
        -- at 37: .caload
        refine ty_caload (pc := 37) (ks := []) (by decide +kernel) s31 (by rfl) p31 f11 (by omega) (fun v hv => ?_)
        rw [h1.1] at hv
        subst hv
        refine ty_iload (pc := 38) (i := 5) (ks := []) (by decide +kernel) rfl ?_
        refine ty_aload_n (pc := 40) (i := 0) (ks := []) (by decide +kernel) rfl ?_
        refine ty_getS (b := (12, 0)) (pc := 41) (idx := 48) (ci := 5) (f := 0) (by decide +kernel) (by first | rfl | assumption) rfl (by first | exact hS.1 _ _ rfl | assumption) (by first | exact hS.2.2 _ _ _ _ rfl | assumption) ?_
        refine ty_aload_n (pc := 44) (i := 1) (ks := []) (by decide +kernel) rfl ?_
        refine ty_getS (pc := 45) (idx := 285) (ci := 3) (f := 3) (by decide +kernel) (by first | rfl | assumption) rfl (by first | exact hS.1 _ _ rfl | assumption) (by first | exact hS.2.2 _ _ _ _ rfl | assumption) ?_
        refine ty_iload (pc := 48) (i := 4) (ks := []) (by decide +kernel) rfl ?_
        -- at 50: .iaload
        refine ty_iaload (pc := 50) (ks := []) (by decide +kernel) s33 (by rfl) p33 f13 (by omega) (fun v hv => ?_)
        rw [h3] at hv
        subst hv
        refine ty_iload_n (pc := 51) (i := 2) (ks := []) (by decide +kernel) rfl ?_
        -- at 52: .invokevirtual 264
        refine ty_callv (pc := 52) (idx := 264) (m := 44) (n := 3) (c := 1) (vs := [_, _]) (r := [_, _, _]) (by decide +kernel) rfl rfl (Nat.le_of_ble_eq_true rfl) (by first | rfl | assumption) (by first | exact hS.1 _ _ rfl | assumption) (ct_termOf _) ?_
        rintro _ S3 ⟨z, rfl, rfl, rfl⟩
        refine ty_KI ?_
        refine ty_iload_n (pc := 55) (i := 3) (ks := []) (by decide +kernel) rfl ?_
        -- at 56: .invokevirtual 201
        refine ty_callv (pc := 56) (idx := 201) (m := 45) (n := 5) (c := 5) (vs := [_, _, _, _]) (r := []) (by decide +kernel) rfl rfl (Nat.le_of_ble_eq_true rfl) (by first | rfl | assumption) (by first | exact hS.1 _ _ rfl | assumption) (cs_put1 d (g := (gs[m].1, base * 624 + gs[m].2.1, base * 624 + gs[m].2.2, bar)) q1 q2 q5.1 (by omega) (by omega) q5.2 h1.2) ?_
        rintro _ S4 ⟨rfl, E2, m2, d2, hq2⟩
        refine ty_KV ?_
        have hq3 := hq0.trans hq2
        refine ty_iinc (pc := 59) (i := 4) (n := (-1)) (ks := []) (ls' := [_, _, _, _, _, _]) (by decide +kernel) rfl rfl ?_
        refine ty_goto (pc := 62) (off := (-54)) (t := 8) (ks := []) (by decide +kernel) ?_
        -- at 8: .iload 4
        have hdr : gs.drop m = gs[m] :: gs.drop (m + 1) := List.drop_eq_getElem_cons hgl
        have := ih S4 E2 m2 d2 (some (.inl (ty_J (base * 624 + gs[m].2.1)))) (by omega) (by
          rw [hdr, show u + (gs.length - m) = u + (gs.length - (m + 1)) + 1 by omega]
          exact hq3)
        rw [show (m : Int) - 1 = (m : Int) + -1 by omega] at this
        exact this
  have hS0 := hS
  obtain ⟨f1, f2, -⟩ := cs_cl_facts hS hx
  refine ty_enter (ml := 6) (ls := [_, _, _, _, _, _]) rfl rfl (Nat.le_of_ble_eq_true rfl) ?_
  refine ty_aload_n (pc := 0) (i := 1) (ks := []) (by decide +kernel) rfl ?_
  refine ty_getI (pc := 1) (idx := 277) (ci := 3) (f := 4) (by decide +kernel) (by first | rfl | assumption) rfl (by first | exact hS.1 _ _ rfl | assumption) (fun v hv => ?_)
  subst hv
  refine ty_iconst (pc := 4) (n := 1) (ks := []) (by decide +kernel) ?_
  refine ty_isub (pc := 5) (ks := []) (by decide +kernel) ?_
  refine ty_istore (pc := 6) (i := 4) (ks := []) (ls' := [_, _, _, _, _, _]) (by decide +kernel) rfl ?_
  -- at 8: .iload 4
  rw [hco.2.2.1]
  have h24 := hco.2.2.2.1
  exact loop gs.length S D1 n1 c1 none (Nat.le_refl _) (by
    rw [List.drop_length]
    rw [Nat.sub_self, Nat.add_zero]
    exact cs_Q.refl hS hL hu hle ht)
end CSB
