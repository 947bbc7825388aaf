/-! Lists: D its row, n its size, cap the row's length; what lies in it is (s, 0), (s, 1) .. -/
def jd_al (S : ty_S) (a : ai_A) (s : Nat) (D : ai_A) (n cap : Nat) : Prop :=
  S.1 a 1 = n ∧ S.2.1 a 0 = some D ∧ n ≤ cap ∧ cap ≤ 2 * n + 10 ∧ n ≤ 1000000 ∧ ((D = (0, 1) ∧ n = 0 ∧ cap = 0) ∨ ((D.1 = 50 ∨ D.1 = 51) ∧ D.2 < S.2.2.2.2.2.2.1 D.1 ∧ S.2.2.2.2.2.1 D = cap ∧ 10 ≤ cap ∧ ∀ i : Nat, i < n → S.2.2.2.1 D i = some (s, i)))
/-- what an add leaves alone -/
def jd_fr (S S' : ty_S) (a D D' : ai_A) : Prop := (∀ b j, b ≠ a → S'.1 b j = S.1 b j) ∧ (∀ b j, b ≠ a → S'.2.1 b j = S.2.1 b j) ∧ (∀ b, b ≠ D' ∨ D' = D → S'.2.2.1 b = S.2.2.1 b) ∧ (∀ b, b ≠ D → b ≠ D' → S'.2.2.2.1 b = S.2.2.2.1 b) ∧ S'.2.2.2.2.1 = S.2.2.2.2.1 ∧ (∀ b, b ≠ D' ∨ D' = D → S'.2.2.2.2.2.1 b = S.2.2.2.2.2.1 b) ∧ (∀ s, s ≠ 50 → s ≠ 51 → S'.2.2.2.2.2.2.1 s = S.2.2.2.2.2.2.1 s) ∧ (∀ s, S.2.2.2.2.2.2.1 s ≤ S'.2.2.2.2.2.2.1 s) ∧ (D' = D ∨ (D'.2 = S.2.2.2.2.2.2.1 D'.1 ∧ (D'.1 = 50 ∨ D'.1 = 51)))
theorem jd_sk50 : ty_sk 50 = (4, 5) := by decide +kernel
theorem jd_sk51 : ty_sk 51 = (4, 5) := by decide +kernel
theorem jd_skD {D : ai_A} (h : D.1 = 50 ∨ D.1 = 51) : ty_sk D.1 = (4, 5) := by
  rcases h with h | h
  · rw [h]; exact jd_sk50
  · rw [h]; exact jd_sk51
section JDA
variable {L : Nat} {xs : Nat → Int32} {S : ty_S} {a D : ai_A} {s n cap : Nat}
theorem jd_checkIndex (d : Nat) {i n : Int} (h : 0 ≤ i ∧ i < n ∧ n ≤ 2147483647) : ty_C L xs (d + 2) 57 [.inl (ty_J i), .inl (ty_J n)] S (ty_oI fun z S' => z = i ∧ S' = S) := by
  have h1 : ty_C L xs (d + 1) 58 [.inl (ty_J i), .inl (ty_J n), .inr (.inr none)] S (ty_oI fun z S' => z = i ∧ S' = S) := by
    refine ty_enter (ml := 3) (ls := [_, _, _]) rfl rfl (Nat.le_of_ble_eq_true rfl) ?_
    refine ty_iload_n (pc := 0) (i := 0) (ks := []) (by decide +kernel) rfl ?_
    -- at 1: .ifCond .lt 8
    refine ty_if_lt (pc := 1) (off := 8) (t := 9) (ks := []) (by decide +kernel) (by omega) (fun hc => ?_) (fun hc => ?_)
    · omega
    · refine ty_iload_n (pc := 4) (i := 0) (ks := []) (by decide +kernel) rfl ?_
      refine ty_iload_n (pc := 5) (i := 1) (ks := []) (by decide +kernel) rfl ?_
      -- at 6: .if_icmp .lt 10
      refine ty_icmp_lt (pc := 6) (off := 10) (t := 16) (ks := []) (by decide +kernel) (by omega) (by omega) (fun hc => ?_) (fun hc => ?_)
      · refine ty_iload_n (pc := 16) (i := 0) (ks := []) (by decide +kernel) rfl ?_
        refine ty_ret_i (pc := 17) (ks := []) (ty := .int) (by decide +kernel) rfl rfl ?_
        exact ⟨_, rfl, rfl, rfl⟩
      · omega
  refine ty_enter (ml := 2) (ls := [_, _]) rfl rfl (Nat.le_of_ble_eq_true rfl) ?_
  refine ty_iload_n (pc := 0) (i := 0) (ks := []) (by decide +kernel) rfl ?_
  refine ty_iload_n (pc := 1) (i := 1) (ks := []) (by decide +kernel) rfl ?_
  refine ty_null (pc := 2) (ks := []) (by decide +kernel) ?_
  -- at 3: .invokestatic 105
  refine ty_calls (pc := 3) (idx := 105) (m := 58) (n := 3) (c := 0) (av := [_, _, _]) (r := []) (by decide +kernel) rfl rfl (Nat.le_of_ble_eq_true rfl) h1 ?_
  rintro _ S1 ⟨z, rfl, rfl, rfl⟩
  refine ty_KI ?_
  refine ty_ret_i (pc := 6) (ks := []) (ty := .int) (by decide +kernel) rfl rfl ?_
  exact ⟨_, rfl, rfl, rfl⟩
theorem jd_get (d : Nat) (hs : ty_sk a.1 = (1, 6)) (hp : a.2 < S.2.2.2.2.2.2.1 a.1) (hA : jd_al S a s D n cap) {i : Nat} (hi : i < n) : ty_C L xs (d + 3) 56 [.inr (.inr (some a)), .inl (ty_J i)] S (ty_oR fun z S' => z = some (s, i) ∧ S' = S) := by
  obtain ⟨h1, h2, h3, h3', h3'', ⟨-, h4, -⟩ | ⟨h4, h5, h6, h7, h8⟩⟩ := hA
  · omega
  · have hD := jd_skD h4
    refine ty_enter (ml := 2) (ls := [_, _]) rfl rfl (Nat.le_of_ble_eq_true rfl) ?_
    refine ty_iload_n (pc := 0) (i := 1) (ks := []) (by decide +kernel) rfl ?_
    refine ty_aload_n (pc := 1) (i := 0) (ks := []) (by decide +kernel) rfl ?_
    refine ty_getI (pc := 2) (idx := 48) (ci := 6) (f := 1) (by decide +kernel) hs rfl hp (fun v hv => ?_)
    rw [h1] at hv
    subst hv
    refine ty_calls (pc := 5) (idx := 118) (m := 57) (n := 2) (c := 0) (av := [_, _]) (r := []) (by decide +kernel) rfl rfl (Nat.le_of_ble_eq_true rfl) (jd_checkIndex d (by omega)) ?_
    rintro _ S1 ⟨z, rfl, rfl, rfl⟩
    refine ty_KI ?_
    refine ty_pop (pc := 8) (ks := []) (by decide +kernel) rfl ?_
    refine ty_aload_n (pc := 9) (i := 0) (ks := []) (by decide +kernel) rfl ?_
    refine ty_iload_n (pc := 10) (i := 1) (ks := []) (by decide +kernel) rfl ?_
    -- at 11: .invokevirtual 123
    have h9 : ty_C L xs (d + 2) 59 [.inr (.inr (some a)), .inl (ty_J i)] S1 (ty_oR fun z S' => z = some (s, i) ∧ S' = S1) := by
      refine ty_enter (ml := 2) (ls := [_, _]) rfl rfl (Nat.le_of_ble_eq_true rfl) ?_
      refine ty_aload_n (pc := 0) (i := 0) (ks := []) (by decide +kernel) rfl ?_
      refine ty_getS (pc := 1) (idx := 9) (ci := 6) (f := 0) (by decide +kernel) hs rfl hp h2 ?_
      refine ty_iload_n (pc := 4) (i := 1) (ks := []) (by decide +kernel) rfl ?_
      refine ty_aaload (pc := 5) (ks := []) (by decide +kernel) hD rfl h5 h6 (by omega) (fun v hv => ?_)
      rw [h8 i hi] at hv
      subst hv
      refine ty_ret_a (pc := 6) (ks := []) (ty := (.object "java/lang/Object")) (by decide +kernel) rfl rfl ?_
      exact ⟨_, rfl, rfl, rfl⟩
    refine ty_callv (pc := 11) (idx := 123) (m := 59) (n := 2) (c := 6) (vs := [_]) (r := []) (by decide +kernel) rfl rfl (Nat.le_of_ble_eq_true rfl) hs hp h9 ?_
    rintro _ S2 ⟨z, rfl, rfl, rfl⟩
    refine ty_KR ?_
    refine ty_ret_a (pc := 14) (ks := []) (ty := (.object "java/lang/Object")) (by decide +kernel) rfl rfl ?_
    exact ⟨_, rfl, rfl, rfl⟩
theorem jd_newLength (d : Nat) {o m p : Int} (h : 0 ≤ o ∧ 0 ≤ p ∧ 0 < m ∧ m ≤ 1000000 ∧ p ≤ 10000000 ∧ o ≤ 10000000) : ty_C L xs (d + 1) 52 [.inl (ty_J o), .inl (ty_J m), .inl (ty_J p)] S (ty_oI fun z S' => z = o + (if m < p then p else m) ∧ S' = S) := by
  refine ty_enter (ml := 4) (ls := [_, _, _, _]) rfl rfl (Nat.le_of_ble_eq_true rfl) ?_
  refine ty_iload_n (pc := 0) (i := 0) (ks := []) (by decide +kernel) rfl ?_
  refine ty_iload_n (pc := 1) (i := 1) (ks := []) (by decide +kernel) rfl ?_
  refine ty_iload_n (pc := 2) (i := 2) (ks := []) (by decide +kernel) rfl ?_
  refine ty_max (pc := 3) (ins := .invokestatic 194) (ks := []) (by decide +kernel) (by omega) (by omega) (Nat.le_of_ble_eq_true rfl) (fun z hz => ?_)
  -- at 6: .iadd
  have hz2 : 0 < z ∧ z ≤ 10000000 := by
    rw [← hz]
    split <;> omega
  refine ty_iadd (pc := 6) (ks := []) (by decide +kernel) ?_
  refine ty_istore_n (pc := 7) (i := 3) (ks := []) (ls' := [_, _, _, _]) (by decide +kernel) rfl ?_
  refine ty_iconst (pc := 8) (n := 0) (ks := []) (by decide +kernel) ?_
  refine ty_iload_n (pc := 9) (i := 3) (ks := []) (by decide +kernel) rfl ?_
  -- at 10: .if_icmp .ge 11
  refine ty_icmp_ge (pc := 10) (off := 11) (t := 21) (ks := []) (by decide +kernel) (by omega) (by omega) (fun hc => ?_) (fun hc => ?_)
  · omega
  · refine ty_iload_n (pc := 13) (i := 3) (ks := []) (by decide +kernel) rfl ?_
    refine ty_ldc (pc := 14) (idx := 200) (c := 2147483639) (z := 2147483639) (by decide +kernel) (by decide +kernel) ?_
    -- at 16: .if_icmp .gt 5
    refine ty_icmp_gt (pc := 16) (off := 5) (t := 21) (ks := []) (by decide +kernel) (by omega) (by omega) (fun hc => ?_) (fun hc => ?_)
    · omega
    · refine ty_iload_n (pc := 19) (i := 3) (ks := []) (by decide +kernel) rfl ?_
      -- at 20: .ireturn
      refine ty_ret_i (pc := 20) (ks := []) (ty := .int) (by decide +kernel) rfl rfl ?_
      exact ⟨_, rfl, by rw [hz], rfl⟩
/-- a copy of a list's row -/
theorem jd_copyQ (d : Nat) (h0 : 2 < S.2.2.2.2.2.2.1 0) (hD : D.1 = 50 ∨ D.1 = 51) (hp : D.2 < S.2.2.2.2.2.2.1 D.1) (hn : S.2.2.2.2.2.1 D = cap) {m : Int} (hm : (cap : Int) < m ∧ m ≤ 60000000) {cj : Nat} (hg : gt_asg 5 cj = true) (hq : ∀ i : Nat, i < cap → ∃ c : ai_A, S.2.2.2.1 D i = some c ∧ ty_sk c.1 = (1, cj) ∧ c.2 < S.2.2.2.2.2.2.1 c.1) :
    ty_C L xs (d + 2) 54 [.inr (.inr (some D)), .inl (ty_J m)] S (ty_oR fun z S' => z = some (51, S.2.2.2.2.2.2.1 51) ∧ S' = ty_mQ (ty_nA S 51 m.toNat) (51, S.2.2.2.2.2.2.1 51) (fun j => if 0 ≤ j ∧ j < cap then S.2.2.2.1 D j else none)) := by
  have hsk := jd_skD hD
  have hne : D ≠ (51, S.2.2.2.2.2.2.1 51) := by
    intro e
    rw [e] at hp
    simp at hp
  have h1 : ty_C L xs (d + 1) 55 [.inr (.inr (some D)), .inl (ty_J m), .inr (.inr (some (0, 2)))] S (ty_oR fun z S' => z = some (51, S.2.2.2.2.2.2.1 51) ∧ S' = ty_mQ (ty_nA S 51 m.toNat) (51, S.2.2.2.2.2.2.1 51) (fun j => if 0 ≤ j ∧ j < cap then S.2.2.2.1 D j else none)) := by
    refine ty_enter (ml := 4) (ls := [_, _, _, _]) rfl rfl (Nat.le_of_ble_eq_true rfl) ?_
    refine ty_aload_n (pc := 0) (i := 2) (ks := []) (by decide +kernel) rfl ?_
    -- at 1: .ldc 110
    refine ty_ldcM (pc := 1) (ins := .ldc 110) (by decide +kernel) h0 ?_
    refine ty_ext (pc := 3) (ins := .if_acmp .ne 10) (ks := [4, 13]) (pc' := 6) (st' := []) (S' := S) (by decide +kernel) (by simp [ai_ext, ai_same]) ?_
    refine ty_iload_n (pc := 6) (i := 1) (ks := []) (by decide +kernel) rfl ?_
    refine ty_newQ (pc := 7) (idx := 2) (t := 5) (s := 51) (by decide +kernel) jd_sk51 (by omega) ?_
    refine ty_goto (pc := 10) (off := 14) (t := 24) (ks := []) (by decide +kernel) ?_
    refine ty_astore_n (pc := 24) (i := 3) (ks := []) (ls' := [_, _, _, _]) (by decide +kernel) rfl ?_
    refine ty_aload_n (pc := 25) (i := 0) (ks := []) (by decide +kernel) rfl ?_
    refine ty_iconst (pc := 26) (n := 0) (ks := []) (by decide +kernel) ?_
    refine ty_aload_n (pc := 27) (i := 3) (ks := []) (by decide +kernel) rfl ?_
    refine ty_iconst (pc := 28) (n := 0) (ks := []) (by decide +kernel) ?_
    refine ty_aload_n (pc := 29) (i := 0) (ks := []) (by decide +kernel) rfl ?_
    -- at 30: .arraylength
    have hp' : D.2 < (ty_nA S 51 m.toNat).2.2.2.2.2.2.1 D.1 := by
      show D.2 < (if D.1 = 51 then S.2.2.2.2.2.2.1 51 + 1 else S.2.2.2.2.2.2.1 D.1)
      split
      · rename_i e; rw [e] at hp; omega
      · exact hp
    have hn' : (ty_nA S 51 m.toNat).2.2.2.2.2.1 D = cap := by
      show (if D = (51, S.2.2.2.2.2.2.1 51) then m.toNat else S.2.2.2.2.2.1 D) = cap
      rw [if_neg hne]; exact hn
    have hp2 : (51, S.2.2.2.2.2.2.1 51).2 < (ty_nA S 51 m.toNat).2.2.2.2.2.2.1 (51, S.2.2.2.2.2.2.1 51).1 := by
      show S.2.2.2.2.2.2.1 51 < (if 51 = 51 then S.2.2.2.2.2.2.1 51 + 1 else S.2.2.2.2.2.2.1 51)
      simp
    have hn2 : (ty_nA S 51 m.toNat).2.2.2.2.2.1 (51, S.2.2.2.2.2.2.1 51) = m.toNat := by
      show (if (51, S.2.2.2.2.2.2.1 51) = (51, S.2.2.2.2.2.2.1 51) then m.toNat else _) = m.toNat
      simp
    have hQ : (ty_nA S 51 m.toNat).2.2.2.1 D = S.2.2.2.1 D := by
      show (if D = (51, S.2.2.2.2.2.2.1 51) then (fun _ => none) else S.2.2.2.1 D) = S.2.2.2.1 D
      rw [if_neg hne]
    refine ty_length (pc := 30) (ks := []) (by decide +kernel) (.inr hsk) (by decide) hp' hn' ?_
    refine ty_iload_n (pc := 31) (i := 1) (ks := []) (by decide +kernel) rfl ?_
    refine ty_min (pc := 32) (ins := .invokestatic 304) (ks := []) (by decide +kernel) (by omega) (by omega) (Nat.le_of_ble_eq_true rfl) (fun z hz => ?_)
    -- at 35: .invokestatic 150
    rw [if_neg (by omega)] at hz
    subst hz
    refine ty_copyq (pc := 35) (ins := .invokestatic 150) (cj := cj) (by decide +kernel) hsk rfl hp' hn' jd_sk51 hp2 hn2 (by omega) hg (fun i c hi1 hi2 hc => ?_) (Nat.le_of_ble_eq_true rfl) ?_
    · rw [hQ] at hc
      obtain ⟨c', q1, q2, q3⟩ := hq i.toNat (by omega)
      rw [show ((i.toNat : Nat) : Int) = 0 + i by omega] at q1
      cases q1.symm.trans hc
      refine ⟨q2, ?_⟩
      show c.2 < (if c.1 = 51 then S.2.2.2.2.2.2.1 51 + 1 else S.2.2.2.2.2.2.1 c.1)
      split
      · rename_i e; rw [e] at q3; omega
      · exact q3
    refine ty_aload_n (pc := 38) (i := 3) (ks := []) (by decide +kernel) rfl ?_
    -- at 39: .areturn
    refine ty_ret_a (pc := 39) (ks := []) (ty := (.array (.object "java/lang/Object"))) (by decide +kernel) rfl rfl ?_
    refine ⟨_, rfl, rfl, ?_⟩
    congr 1
    funext j
    rw [hQ]
    by_cases e : 0 ≤ j ∧ j < 0 + (cap : Int)
    · rw [if_pos e, if_pos (by omega), show (0 : Int) + (j - 0) = j by omega]
    · rw [if_neg e, if_neg (by omega)]
      show (if (51, S.2.2.2.2.2.2.1 51) = (51, S.2.2.2.2.2.2.1 51) then (fun _ => none) else S.2.2.2.1 (51, S.2.2.2.2.2.2.1 51)) j = none
      simp
  refine ty_enter (ml := 2) (ls := [_, _]) rfl rfl (Nat.le_of_ble_eq_true rfl) ?_
  refine ty_aload_n (pc := 0) (i := 0) (ks := []) (by decide +kernel) rfl ?_
  refine ty_iload_n (pc := 1) (i := 1) (ks := []) (by decide +kernel) rfl ?_
  refine ty_aload_n (pc := 2) (i := 0) (ks := []) (by decide +kernel) rfl ?_
  -- at 3: .invokevirtual 86
  refine ty_getC (pc := 3) (ins := .invokevirtual 86) (by decide +kernel) h0 hsk rfl hp (Nat.le_of_ble_eq_true rfl) ?_
  refine ty_calls (pc := 6) (idx := 300) (m := 55) (n := 3) (c := 0) (av := [_, _, _]) (r := []) (by decide +kernel) rfl rfl (Nat.le_of_ble_eq_true rfl) h1 ?_
  rintro _ S1 ⟨z, rfl, rfl, rfl⟩
  refine ty_KR ?_
  refine ty_ret_a (pc := 9) (ks := []) (ty := (.array (.object "java/lang/Object"))) (by decide +kernel) rfl rfl ?_
  exact ⟨_, rfl, rfl, rfl⟩
end JDA
