/-! An element more in a list. -/
/-- what it cost -/
def jd_cost (S S' : ty_S) (D D' : ai_A) (cap cap' : Nat) : Prop := (D' = D ∧ cap' = cap ∧ S'.2.2.2.2.2.2.2 = S.2.2.2.2.2.2.2) ∨ (D' ≠ D ∧ (4 * cap ≤ 3 * cap' ∧ cap < cap') ∧ S'.2.2.2.2.2.2.2 = (S.2.2.2.2.2.2.2.1 + 1, S.2.2.2.2.2.2.2.2 + cap'))
section JDB
variable {L : Nat} {xs : Nat → Int32} {S : ty_S} {a D : ai_A} {s n cap cj : Nat}
theorem jd_grow (d : Nat) (hs : ty_sk a.1 = (1, 6)) (hp : a.2 < S.2.2.2.2.2.2.1 a.1) (ha : a.1 ≠ 50 ∧ a.1 ≠ 51) (h0 : 2 < S.2.2.2.2.2.2.1 0) (hA : jd_al S a s D n cap) (hc : n = cap) (hk : ty_sk s = (1, cj)) (hg : gt_asg 5 cj = true) (hm : n ≤ S.2.2.2.2.2.2.1 s) :
    ty_C L xs (d + 4) 50 [.inr (.inr (some a))] S (ty_oR fun z S' => ∃ (D' : ai_A) (cap' : Nat), z = some D' ∧ D' ≠ D ∧ jd_al S' a s D' n cap' ∧ n < cap' ∧ (D'.1 = 50 ∨ D'.1 = 51) ∧ jd_fr S S' a D D' ∧ (∀ j, j ≠ 0 → S'.2.1 a j = S.2.1 a j) ∧ S'.1 = S.1 ∧ jd_cost S S' D D' cap cap') := by
  obtain ⟨h1, h2, h3, h3', h3'', h4⟩ := hA
  have h9 : ty_C L xs (d + 3) 51 [.inr (.inr (some a)), .inl (ty_J ((n : Int) + 1))] S (ty_oR fun z S' => ∃ (D' : ai_A) (cap' : Nat), z = some D' ∧ D' ≠ D ∧ jd_al S' a s D' n cap' ∧ n < cap' ∧ (D'.1 = 50 ∨ D'.1 = 51) ∧ jd_fr S S' a D D' ∧ (∀ j, j ≠ 0 → S'.2.1 a j = S.2.1 a j) ∧ S'.1 = S.1 ∧ jd_cost S S' D D' cap cap') := by
    refine ty_enter (ml := 4) (ls := [_, _, _, _]) rfl rfl (Nat.le_of_ble_eq_true rfl) ?_
    refine ty_aload_n (pc := 0) (i := 0) (ks := []) (by decide +kernel) rfl ?_
    refine ty_getS (pc := 1) (idx := 9) (ci := 6) (f := 0) (by decide +kernel) hs rfl hp h2 ?_
    rcases h4 with ⟨rfl, hn0, hc0⟩ | ⟨h4, h5, h6, h7, h8⟩
    · refine ty_lengthE (pc := 4) (ks := []) (by decide +kernel) (by omega) ?_
      refine ty_istore_n (pc := 5) (i := 2) (ks := []) (ls' := [_, _, _, _]) (by decide +kernel) rfl ?_
      refine ty_iload_n (pc := 6) (i := 2) (ks := []) (by decide +kernel) rfl ?_
      -- at 7: .ifCond .gt 13
      refine ty_if_gt (pc := 7) (off := 13) (t := 20) (ks := []) (by decide +kernel) (by omega) (fun hc => ?_) (fun hc => ?_)
      · omega
      · refine ty_aload_n (pc := 10) (i := 0) (ks := []) (by decide +kernel) rfl ?_
        refine ty_getS (pc := 11) (idx := 9) (ci := 6) (f := 0) (by decide +kernel) hs rfl hp h2 ?_
        refine ty_empty (pc := 14) (ins := .getstatic 39) (by decide +kernel) (by omega) ?_
        refine ty_ext (pc := 17) (ins := .if_acmp .eq 28) (ks := [3, 45]) (pc' := 45) (st' := []) (S' := S) (by decide +kernel) (by simp [ai_ext, ai_same]) ?_
        refine ty_aload_n (pc := 45) (i := 0) (ks := []) (by decide +kernel) rfl ?_
        refine ty_bipush (pc := 46) (n := 10) (ks := []) (by decide +kernel) (by omega) ?_
        refine ty_iload_n (pc := 48) (i := 1) (ks := []) (by decide +kernel) rfl ?_
        refine ty_max (pc := 49) (ins := .invokestatic 79) (ks := []) (by decide +kernel) (by omega) (by omega) (Nat.le_of_ble_eq_true rfl) (fun z hz => ?_)
        -- at 52: .anewarray 7
        rw [if_neg (by omega)] at hz
        subst hz
        refine ty_newQ (pc := 52) (idx := 7) (t := 5) (s := 50) (by decide +kernel) jd_sk50 (by omega) ?_
        refine ty_dup_x1 (pc := 55) (ks := []) (by decide +kernel) rfl rfl ?_
        -- at 56: .putfield 9
        have hp' : a.2 < (ty_nA S 50 (10 : Int).toNat).2.2.2.2.2.2.1 a.1 := by
          show a.2 < (if a.1 = 50 then S.2.2.2.2.2.2.1 50 + 1 else S.2.2.2.2.2.2.1 a.1)
          rw [if_neg ha.1]; exact hp
        refine ty_putR (pc := 56) (idx := 9) (ci := 6) (f := 0) (by decide +kernel) hs rfl rfl hp' ?_
        refine ty_ret_a (pc := 59) (ks := []) (ty := (.array (.object "java/lang/Object"))) (by decide +kernel) rfl rfl ?_
        have hne : ((50 : Nat), S.2.2.2.2.2.2.1 50) ≠ (0, 1) := by simp
        refine ⟨_, rfl, (50, S.2.2.2.2.2.2.1 50), 10, rfl, hne, ⟨h1, ?_, by omega, by omega, by omega, .inr ⟨.inl rfl, ?_, ?_, by omega, fun i hi => ?_⟩⟩, by omega, .inl rfl, ⟨fun b j hb => rfl, fun b j hb => ?_, fun b hb => ?_, fun b hb hb2 => ?_, ?_, fun b hb => ?_, fun t ht ht2 => ?_, fun t => ?_, .inr ⟨rfl, .inl rfl⟩⟩, fun j hj => ?_, rfl, .inr ⟨hne, by omega, rfl⟩⟩
        · simp [ty_sR]
        · simp [ty_sR, ty_nA]
        · simp [ty_sR, ty_nA]
        · omega
        · simp [ty_sR, ty_nA, hb]
        · rcases hb with hb | hb
          · simp [ty_sR, ty_nA, hb]
          · exact absurd hb hne
        · simp [ty_sR, ty_nA, hb2]
        · simp [ty_sR, ty_nA, jd_sk50]
        · rcases hb with hb | hb
          · simp [ty_sR, ty_nA, hb]
          · exact absurd hb hne
        · simp [ty_sR, ty_nA, ht]
        · simp only [ty_sR, ty_nA]
          split
          · rename_i e; rw [e]; omega
          · omega
        · simp [ty_sR, ty_nA, hj]
    · have hsk := jd_skD h4
      refine ty_length (pc := 4) (ks := []) (by decide +kernel) (.inr hsk) (by decide) h5 h6 ?_
      refine ty_istore_n (pc := 5) (i := 2) (ks := []) (ls' := [_, _, _, _]) (by decide +kernel) rfl ?_
      refine ty_iload_n (pc := 6) (i := 2) (ks := []) (by decide +kernel) rfl ?_
      -- at 7: .ifCond .gt 13
      refine ty_if_gt (pc := 7) (off := 13) (t := 20) (ks := []) (by decide +kernel) (by omega) (fun hc => ?_) (fun hc => ?_)
      · refine ty_iload_n (pc := 20) (i := 2) (ks := []) (by decide +kernel) rfl ?_
        refine ty_iload_n (pc := 21) (i := 1) (ks := []) (by decide +kernel) rfl ?_
        refine ty_iload_n (pc := 22) (i := 2) (ks := []) (by decide +kernel) rfl ?_
        refine ty_isub (pc := 23) (ks := []) (by decide +kernel) ?_
        refine ty_iload_n (pc := 24) (i := 2) (ks := []) (by decide +kernel) rfl ?_
        refine ty_iconst (pc := 25) (n := 1) (ks := []) (by decide +kernel) ?_
        -- at 26: .ishr
        refine ty_ishr1 (pc := 26) (ks := []) (by decide +kernel) (by omega) ?_
        refine ty_calls (pc := 27) (idx := 73) (m := 52) (n := 3) (c := 0) (av := [_, _, _]) (r := []) (by decide +kernel) rfl rfl (Nat.le_of_ble_eq_true rfl) (jd_newLength _ (by omega)) ?_
        rintro _ S1 ⟨z, rfl, rfl, rfl⟩
        refine ty_KI ?_
        have hz : ∃ m : Nat, (cap : Int) + (if (n : Int) + 1 - (cap : Int) < (cap : Int) / 2 then (cap : Int) / 2 else (n : Int) + 1 - (cap : Int)) = m ∧ cap < m ∧ m ≤ 2 * cap ∧ 4 * cap ≤ 3 * m := by
          refine ⟨cap + cap / 2, ?_, by omega, by omega, by omega⟩
          rw [if_pos (by omega)]
          omega
        obtain ⟨m, hz1, hz2, hz3, hz4⟩ := hz
        rw [hz1]
        refine ty_istore_n (pc := 30) (i := 3) (ks := []) (ls' := [_, _, _, _]) (by decide +kernel) rfl ?_
        refine ty_aload_n (pc := 31) (i := 0) (ks := []) (by decide +kernel) rfl ?_
        refine ty_aload_n (pc := 32) (i := 0) (ks := []) (by decide +kernel) rfl ?_
        refine ty_getS (pc := 33) (idx := 9) (ci := 6) (f := 0) (by decide +kernel) hs rfl hp h2 ?_
        refine ty_iload_n (pc := 36) (i := 3) (ks := []) (by decide +kernel) rfl ?_
        refine ty_calls (pc := 37) (idx := 66) (m := 54) (n := 2) (c := 0) (av := [_, _]) (r := [_]) (by decide +kernel) rfl rfl (Nat.le_of_ble_eq_true rfl) (jd_copyQ d h0 h4 h5 h6 (m := m) (by omega) hg (fun i hi => ⟨(s, i), h8 i (by omega), hk, by show i < S1.2.2.2.2.2.2.1 s; omega⟩)) ?_
        rintro _ S2 ⟨z, rfl, rfl, rfl⟩
        refine ty_KR ?_
        refine ty_dup_x1 (pc := 40) (ks := []) (by decide +kernel) rfl rfl ?_
        have hp' : a.2 < (ty_mQ (ty_nA S1 51 (m : Int).toNat) (51, S1.2.2.2.2.2.2.1 51) (fun j => if 0 ≤ j ∧ j < (cap : Int) then S1.2.2.2.1 D j else none)).2.2.2.2.2.2.1 a.1 := by
          show a.2 < (if a.1 = 51 then S1.2.2.2.2.2.2.1 51 + 1 else S1.2.2.2.2.2.2.1 a.1)
          rw [if_neg ha.2]; exact hp
        refine ty_putR (pc := 41) (idx := 9) (ci := 6) (f := 0) (by decide +kernel) hs rfl rfl hp' ?_
        refine ty_ret_a (pc := 44) (ks := []) (ty := (.array (.object "java/lang/Object"))) (by decide +kernel) rfl rfl ?_
        have hne : ((51 : Nat), S1.2.2.2.2.2.2.1 51) ≠ D := by
          intro e
          rw [← e] at h5
          simp at h5
        refine ⟨_, rfl, (51, S1.2.2.2.2.2.2.1 51), m, rfl, hne, ⟨h1, ?_, by omega, by omega, by omega, .inr ⟨.inr rfl, ?_, ?_, by omega, fun i hi => ?_⟩⟩, by omega, .inr rfl, ⟨fun b j hb => rfl, fun b j hb => ?_, fun b hb => ?_, fun b hb hb2 => ?_, ?_, fun b hb => ?_, fun t ht ht2 => ?_, fun t => ?_, .inr ⟨rfl, .inr rfl⟩⟩, fun j hj => ?_, rfl, .inr ⟨hne, by omega, ?_⟩⟩
        · simp [ty_sR]
        · simp [ty_sR, ty_mQ, ty_nA]
        · simp [ty_sR, ty_mQ, ty_nA]
        · simp only [ty_sR, ty_mQ, if_true]
          rw [if_pos (by omega)]
          exact h8 i (by omega)
        · simp [ty_sR, ty_mQ, ty_nA, hb]
        · rcases hb with hb | hb
          · simp [ty_sR, ty_mQ, ty_nA, hb]
          · exact absurd hb hne
        · simp [ty_sR, ty_mQ, ty_nA, hb2]
        · simp [ty_sR, ty_mQ, ty_nA, jd_sk51]
        · rcases hb with hb | hb
          · simp [ty_sR, ty_mQ, ty_nA, hb]
          · exact absurd hb hne
        · simp [ty_sR, ty_mQ, ty_nA, ht2]
        · simp only [ty_sR, ty_mQ, ty_nA]
          split
          · rename_i e; rw [e]; omega
          · omega
        · simp [ty_sR, ty_mQ, ty_nA, hj]
        · simp [ty_sR, ty_mQ, ty_nA]
      · omega
  refine ty_enter (ml := 1) (ls := [_]) rfl rfl (Nat.le_of_ble_eq_true rfl) ?_
  refine ty_aload_n (pc := 0) (i := 0) (ks := []) (by decide +kernel) rfl ?_
  refine ty_aload_n (pc := 1) (i := 0) (ks := []) (by decide +kernel) rfl ?_
  refine ty_getI (pc := 2) (idx := 48) (ci := 6) (f := 1) (by decide +kernel) hs rfl hp (fun v hv => ?_)
  rw [h1] at hv
  subst hv
  refine ty_iconst (pc := 5) (n := 1) (ks := []) (by decide +kernel) ?_
  refine ty_iadd (pc := 6) (ks := []) (by decide +kernel) ?_
  -- at 7: .invokevirtual 69
  refine ty_callv (pc := 7) (idx := 69) (m := 51) (n := 2) (c := 6) (vs := [_]) (r := []) (by decide +kernel) rfl rfl (Nat.le_of_ble_eq_true rfl) hs hp h9 ?_
  rintro _ S2 ⟨z, rfl, hq⟩
  refine ty_KR ?_
  refine ty_ret_a (pc := 10) (ks := []) (ty := (.array (.object "java/lang/Object"))) (by decide +kernel) rfl rfl ?_
  exact ⟨_, rfl, hq⟩
/-- add -/
theorem jd_add (d : Nat) (hs : ty_sk a.1 = (1, 6)) (hp : a.2 < S.2.2.2.2.2.2.1 a.1) (ha : a.1 ≠ 50 ∧ a.1 ≠ 51) (h0 : 2 < S.2.2.2.2.2.2.1 0) (hA : jd_al S a s D n cap) (hk : ty_sk s = (1, cj)) (hg : gt_asg 5 cj = true) (hm : n < S.2.2.2.2.2.2.1 s) (hn : n < 1000000) (hs5 : s ≠ 50 ∧ s ≠ 51) :
    ty_C L xs (d + 6) 48 [.inr (.inr (some a)), .inr (.inr (some (s, n)))] S (ty_oI fun z S' => ∃ (D' : ai_A) (cap' : Nat), jd_al S' a s D' (n + 1) cap' ∧ jd_fr S S' a D D' ∧ (∀ j, j ≠ 0 → S'.2.1 a j = S.2.1 a j) ∧ jd_cost S S' D D' cap cap') := by
  have h3 : ∀ S0 : ty_S, S0.2 = S.2 → (∀ b j, b ≠ a ∨ j ≠ 2 → S0.1 b j = S.1 b j) → ty_C L xs (d + 5) 49 [.inr (.inr (some a)), .inr (.inr (some (s, n))), .inr (.inr (some D)), .inl (ty_J n)] S0 (ty_oV fun S' => ∃ (D' : ai_A) (cap' : Nat), jd_al S' a s D' (n + 1) cap' ∧ jd_fr S0 S' a D D' ∧ (∀ j, j ≠ 0 → S'.2.1 a j = S0.2.1 a j) ∧ jd_cost S0 S' D D' cap cap') := by
    intro S0 e1 e2
    have hp0 : a.2 < S0.2.2.2.2.2.2.1 a.1 := by rw [e1]; exact hp
    have hA0 : jd_al S0 a s D n cap := by
      unfold jd_al at hA ⊢
      rw [e1, e2 a 1 (.inr (by decide))]
      exact hA
    -- the end of it, from any state with room
    have fin : ∀ (S1 : ty_S) (D1 : ai_A) (cap1 : Nat) (v2 : Option ai_A), jd_al S1 a s D1 n cap1 → n < cap1 → jd_fr S0 S1 a D D1 → (∀ j, j ≠ 0 → S1.2.1 a j = S0.2.1 a j) → jd_cost S0 S1 D D1 cap cap1 → v2 = some D1 → a.2 < S1.2.2.2.2.2.2.1 a.1 → n < S1.2.2.2.2.2.2.1 s →
        ty_W L xs (d + 4) 49 11 [some (.inr (.inr (some a))), some (.inr (.inr (some (s, n)))), some (.inr (.inr v2)), some (.inl (ty_J n))] [] S1 (ty_oV fun S' => ∃ (D' : ai_A) (cap' : Nat), jd_al S' a s D' (n + 1) cap' ∧ jd_fr S0 S' a D D' ∧ (∀ j, j ≠ 0 → S'.2.1 a j = S0.2.1 a j) ∧ jd_cost S0 S' D D' cap cap') := by
      rintro S1 D1 cap1 v2 hA1 hlt hfr hfr2 hco rfl hp1 hs1
      obtain ⟨a1, a2, a3, a4, a4', ⟨-, -, a5⟩ | ⟨a5, a6, a7, a8, a9⟩⟩ := hA1
      · omega
      · have hsk := jd_skD a5
        refine ty_aload_n (pc := 11) (i := 2) (ks := []) (by decide +kernel) rfl ?_
        refine ty_iload_n (pc := 12) (i := 3) (ks := []) (by decide +kernel) rfl ?_
        refine ty_aload_n (pc := 13) (i := 1) (ks := []) (by decide +kernel) rfl ?_
        -- at 14: .aastore
        refine ty_aastore (pc := 14) (ks := []) (cj := cj) (by decide +kernel) hsk a6 a7 (by omega) hk hs1 hg ?_
        refine ty_aload_n (pc := 15) (i := 0) (ks := []) (by decide +kernel) rfl ?_
        refine ty_iload_n (pc := 16) (i := 3) (ks := []) (by decide +kernel) rfl ?_
        refine ty_iconst (pc := 17) (n := 1) (ks := []) (by decide +kernel) ?_
        refine ty_iadd (pc := 18) (ks := []) (by decide +kernel) ?_
        -- at 19: .putfield 48
        refine ty_putI (pc := 19) (idx := 48) (ci := 6) (f := 1) (by decide +kernel) hs rfl rfl hp1 ?_
        refine ty_ret_v (pc := 22) (ks := []) (by decide +kernel) rfl ?_
        obtain ⟨f1, f2, f3, f4, f5, f6, f7, f8, f9⟩ := hfr
        refine ⟨rfl, D1, cap1, ⟨?_, a2, by omega, by omega, by omega, .inr ⟨a5, a6, a7, a8, fun i hi => ?_⟩⟩, ⟨fun b j hb => ?_, f2, f3, fun b hb hb2 => ?_, f5, f6, f7, f8, f9⟩, hfr2, hco⟩
        · simp [ty_sI]
        · simp only [ty_sI, ty_sQ]
          by_cases e : i = n
          · rw [if_pos ⟨trivial, by omega⟩, e]
          · rw [if_neg (fun z => e (by omega))]
            exact a9 i (by omega)
        · simp only [ty_sI, ty_sQ]
          rw [if_neg (fun z => hb z.1)]
          exact f1 b j hb
        · rw [← f4 b hb hb2]
          funext j
          simp only [ty_sI, ty_sQ]
          rw [if_neg (fun z => hb2 z.1)]
    have hA0' := hA0
    obtain ⟨a1, a2, a3, a4, a4', a5⟩ := hA0
    refine ty_enter (ml := 4) (ls := [_, _, _, _]) rfl rfl (Nat.le_of_ble_eq_true rfl) ?_
    refine ty_iload_n (pc := 0) (i := 3) (ks := []) (by decide +kernel) rfl ?_
    refine ty_aload_n (pc := 1) (i := 2) (ks := []) (by decide +kernel) rfl ?_
    have hgr := fun (hc : n = cap) => jd_grow (L := L) (xs := xs) d hs hp0 ha (by rw [e1]; exact h0) hA0' hc hk hg (by rw [e1]; omega)
    have more : ∀ hc : n = cap, ty_W L xs (d + 4) 49 6 [some (.inr (.inr (some a))), some (.inr (.inr (some (s, n)))), some (.inr (.inr (some D))), some (.inl (ty_J n))] [] S0 (ty_oV fun S' => ∃ (D' : ai_A) (cap' : Nat), jd_al S' a s D' (n + 1) cap' ∧ jd_fr S0 S' a D D' ∧ (∀ j, j ≠ 0 → S'.2.1 a j = S0.2.1 a j) ∧ jd_cost S0 S' D D' cap cap') := by
      intro hc
      refine ty_aload_n (pc := 6) (i := 0) (ks := []) (by decide +kernel) rfl ?_
      refine ty_callv (pc := 7) (idx := 129) (m := 50) (n := 1) (c := 6) (vs := []) (r := []) (by decide +kernel) rfl rfl (Nat.le_of_ble_eq_true rfl) hs hp0 (hgr hc) ?_
      rintro _ S1 ⟨z, rfl, D1, cap1, rfl, hne, b1, b2, b3, b4, b5, b6, b7⟩
      refine ty_KR ?_
      refine ty_astore_n (pc := 10) (i := 2) (ks := []) (ls' := [_, _, _, _]) (by decide +kernel) rfl ?_
      refine fin S1 D1 cap1 _ b1 b2 b4 b5 b7 rfl ?_ ?_
      · have := b4.2.2.2.2.2.2.2.1 a.1
        omega
      · rw [b4.2.2.2.2.2.2.1 s hs5.1 hs5.2, e1]
        exact hm
    rcases a5 with ⟨a6, a7, a8⟩ | ⟨a6, a7, a8, a9, a10⟩
    · subst a6
      refine ty_lengthE (pc := 2) (ks := []) (by decide +kernel) (by rw [e1]; omega) ?_
      refine ty_icmp_ne (pc := 3) (off := 8) (t := 11) (ks := []) (by decide +kernel) (by omega) (by omega) (fun hc => ?_) (fun hc => ?_)
      · omega
      · exact more (by omega)
    · refine ty_length (pc := 2) (ks := []) (by decide +kernel) (.inr (jd_skD a6)) (by decide) a7 a8 ?_
      refine ty_icmp_ne (pc := 3) (off := 8) (t := 11) (ks := []) (by decide +kernel) (by omega) (by omega) (fun hc => ?_) (fun hc => ?_)
      · refine fin S0 D cap _ hA0' (by omega) ⟨fun b j hb => rfl, fun b j hb => rfl, fun b hb => rfl, fun b hb hb2 => rfl, rfl, fun b hb => rfl, fun t ht ht2 => rfl, fun t => Nat.le_refl _, .inl rfl⟩ (fun j hj => rfl) (.inl ⟨rfl, rfl, rfl⟩) rfl hp0 (by rw [e1]; exact hm)
      · exact more (by omega)
  have hA' := hA
  obtain ⟨a1, a2, -⟩ := hA
  refine ty_enter (ml := 2) (ls := [_, _]) rfl rfl (Nat.le_of_ble_eq_true rfl) ?_
  refine ty_aload_n (pc := 0) (i := 0) (ks := []) (by decide +kernel) rfl ?_
  refine ty_dup (pc := 1) (ks := []) (by decide +kernel) rfl ?_
  refine ty_getI (pc := 2) (idx := 63) (ci := 6) (f := 2) (by decide +kernel) hs rfl hp (fun v hv => ?_)
  refine ty_iconst (pc := 5) (n := 1) (ks := []) (by decide +kernel) ?_
  refine ty_iadd (pc := 6) (ks := []) (by decide +kernel) ?_
  -- at 7: .putfield 63
  refine ty_putI (pc := 7) (idx := 63) (ci := 6) (f := 2) (by decide +kernel) hs rfl rfl hp ?_
  refine ty_aload_n (pc := 10) (i := 0) (ks := []) (by decide +kernel) rfl ?_
  refine ty_aload_n (pc := 11) (i := 1) (ks := []) (by decide +kernel) rfl ?_
  refine ty_aload_n (pc := 12) (i := 0) (ks := []) (by decide +kernel) rfl ?_
  refine ty_getS (pc := 13) (idx := 9) (ci := 6) (f := 0) (by decide +kernel) hs rfl hp a2 ?_
  refine ty_aload_n (pc := 16) (i := 0) (ks := []) (by decide +kernel) rfl ?_
  refine ty_getI (pc := 17) (idx := 48) (ci := 6) (f := 1) (by decide +kernel) hs rfl hp (fun w hw => ?_)
  have hw2 : w = n := by
    rw [← hw, ← a1]
    simp [ty_sI]
  subst hw2
  refine ty_callv (pc := 20) (idx := 131) (m := 49) (n := 4) (c := 6) (vs := [_, _, _]) (r := []) (by decide +kernel) rfl rfl (Nat.le_of_ble_eq_true rfl) hs hp (h3 (ty_sI S a 2 (v + 1)) rfl (fun b j hb => by
    simp only [ty_sI]
    rw [if_neg (fun z => hb.elim (fun w => w z.1) (fun w => w z.2))])) ?_
  rintro _ S1 ⟨rfl, D', cap', c1, c2, c3, c4⟩
  refine ty_KV ?_
  refine ty_iconst (pc := 23) (n := 1) (ks := []) (by decide +kernel) ?_
  -- at 24: .ireturn
  refine ty_ret_i (pc := 24) (ks := []) (ty := .boolean) (by decide +kernel) rfl (ty_fit_z (by omega)) ?_
  obtain ⟨f1, f2⟩ := c2
  refine ⟨_, rfl, D', cap', c1, ⟨fun b j hb => ?_, f2⟩, c3, c4⟩
  rw [f1 b j hb]
  simp only [ty_sI]
  rw [if_neg (fun z => hb z.1)]
end JDB
