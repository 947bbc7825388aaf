/-! The law's own methods: an outcome becomes a number. -/
def rl_a (e : Nat) : Int := if e = 0 then 1 else if e = 2 then 2 else if e = 1 then 3 else 4
def rl_n (e : Nat) : Int := if e = 2 then 1 else if e = 1 then 2 else 3
/-- an outcome, caught: its number k, the state then -/
def lw_k (c : Nat → Int) (o : ai_O) (S1 : ty_S) (k : Int) (S' : ty_S) : Prop := match o with
  | .inr e => k = c e ∧ S' = ty_ex S1
  | .inl none => k = 0 ∧ S' = S1
  | .inl (some (.inl x)) => k = 0 ∧ S' = ty_sZ S1 0 x.toInt64
  | .inl (some (.inr _)) => False
section LWW
variable {L : Nat} {xs : Nat → Int32} {S : ty_S} {Qc : ai_O → ty_S → Prop}
theorem lw_type (d : Nat) (hS : ty_st S) {e : Int64} (hC : ty_C L xs d 16 [.inr (.inr (some (93, 0))), .inr (.inl e)] S Qc) (hQ : ∀ o S1, Qc o S1 → ty_st S1 ∧ S1.2.2.2.2.2.2.1 95 = 1 ∧ (o = .inr 0 ∨ o = .inr 1 ∨ ∃ z, o = .inl (some (.inl (ty_J z))))) :
    ty_C L xs (d + 1) 15 [.inr (.inr (some (93, 0))), .inr (.inl e), .inr (.inr (some (95, 0)))] S (ty_oI fun k S' => ∃ o S1, Qc o S1 ∧ lw_k rl_c o S1 k S') := by
  refine ty_enter (ml := 5) (ls := [_, _, _, _, _]) rfl rfl (Nat.le_of_ble_eq_true rfl) ?_
  refine ty_aload_n (pc := 0) (i := 3) (ks := []) (by decide +kernel) rfl ?_
  refine ty_iconst (pc := 1) (n := 0) (ks := []) (by decide +kernel) ?_
  refine ty_aload_n (pc := 2) (i := 0) (ks := []) (by decide +kernel) rfl ?_
  refine ty_lload_n (pc := 3) (i := 1) (ks := []) (by decide +kernel) rfl ?_
  -- at 4: .invokevirtual 7
  refine ty_callv (pc := 4) (idx := 7) (m := 16) (n := 2) (c := 0) (vs := [_]) (r := [_, _]) (by decide +kernel) rfl rfl (Nat.le_of_ble_eq_true rfl) (by first | rfl | assumption) (by first | exact hS.1 _ _ rfl | assumption) hC ?_
  intro o S1 hq
  obtain ⟨hS1, hL1, ho⟩ := hQ o S1 hq
  clear hQ hC
  rcases ho with rfl | rfl | ⟨z, rfl⟩
  · refine ty_KH (pc' := 12) (by decide +kernel) ?_
    refine ty_astore (pc := 12) (i := 4) (ks := []) (ls' := [_, _, _, _, _]) (by decide +kernel) rfl ?_
    refine ty_iconst (pc := 14) (n := 1) (ks := []) (by decide +kernel) ?_
    -- at 15: .ireturn
    refine ty_ret_i (pc := 15) (ks := []) (ty := .int) (by decide +kernel) rfl rfl ?_
    exact ⟨1, rfl, _, S1, hq, rfl, rfl⟩
  · refine ty_KH (pc' := 16) (by decide +kernel) ?_
    refine ty_astore (pc := 16) (i := 4) (ks := []) (ls' := [_, _, _, _, _]) (by decide +kernel) rfl ?_
    refine ty_iconst (pc := 18) (n := 2) (ks := []) (by decide +kernel) ?_
    -- at 19: .ireturn
    refine ty_ret_i (pc := 19) (ks := []) (ty := .int) (by decide +kernel) rfl rfl ?_
    exact ⟨2, rfl, _, S1, hq, rfl, rfl⟩
  · refine ty_KI ?_
    have hS := hS1
    refine ty_pure (pc := 7) (ins := .i2l) (ks := []) (by decide +kernel) rfl ?_
    refine ty_lastore (pc := 8) (ks := []) (by decide +kernel) rfl (by first | exact hS.1 _ _ rfl | assumption) (by assumption) (by first | exact hS.2.1 _ _ _ rfl | assumption) (by omega) ?_
    refine ty_goto (pc := 9) (off := 11) (t := 20) (ks := []) (by decide +kernel) ?_
    refine ty_iconst (pc := 20) (n := 0) (ks := []) (by decide +kernel) ?_
    -- at 21: .ireturn
    refine ty_ret_i (pc := 21) (ks := []) (ty := .int) (by decide +kernel) rfl rfl ?_
    exact ⟨0, rfl, _, S1, hq, rfl, rfl⟩
theorem lw_add (d : Nat) (hS : ty_st S) (hC : ty_C L xs d 18 [.inr (.inr (some (93, 0)))] S Qc) (hQ : ∀ o S1, Qc o S1 → ty_st S1 ∧ S1.2.2.2.2.2.2.1 95 = 1 ∧ (o = .inr 0 ∨ o = .inr 1 ∨ ∃ z, o = .inl (some (.inl (ty_J z))))) :
    ty_C L xs (d + 1) 17 [.inr (.inr (some (93, 0))), .inr (.inr (some (95, 0)))] S (ty_oI fun k S' => ∃ o S1, Qc o S1 ∧ lw_k rl_c o S1 k S') := by
  refine ty_enter (ml := 3) (ls := [_, _, _]) rfl rfl (Nat.le_of_ble_eq_true rfl) ?_
  refine ty_aload_n (pc := 0) (i := 1) (ks := []) (by decide +kernel) rfl ?_
  refine ty_iconst (pc := 1) (n := 0) (ks := []) (by decide +kernel) ?_
  refine ty_aload_n (pc := 2) (i := 0) (ks := []) (by decide +kernel) rfl ?_
  -- at 3: .invokevirtual 17
  refine ty_callv (pc := 3) (idx := 17) (m := 18) (n := 1) (c := 0) (vs := []) (r := [_, _]) (by decide +kernel) rfl rfl (Nat.le_of_ble_eq_true rfl) (by first | rfl | assumption) (by first | exact hS.1 _ _ rfl | assumption) hC ?_
  intro o S1 hq
  obtain ⟨hS1, hL1, ho⟩ := hQ o S1 hq
  clear hQ hC
  rcases ho with rfl | rfl | ⟨z, rfl⟩
  · refine ty_KH (pc' := 11) (by decide +kernel) ?_
    refine ty_astore_n (pc := 11) (i := 2) (ks := []) (ls' := [_, _, _]) (by decide +kernel) rfl ?_
    refine ty_iconst (pc := 12) (n := 1) (ks := []) (by decide +kernel) ?_
    -- at 13: .ireturn
    refine ty_ret_i (pc := 13) (ks := []) (ty := .int) (by decide +kernel) rfl rfl ?_
    exact ⟨1, rfl, _, S1, hq, rfl, rfl⟩
  · refine ty_KH (pc' := 14) (by decide +kernel) ?_
    refine ty_astore_n (pc := 14) (i := 2) (ks := []) (ls' := [_, _, _]) (by decide +kernel) rfl ?_
    refine ty_iconst (pc := 15) (n := 2) (ks := []) (by decide +kernel) ?_
    -- at 16: .ireturn
    refine ty_ret_i (pc := 16) (ks := []) (ty := .int) (by decide +kernel) rfl rfl ?_
    exact ⟨2, rfl, _, S1, hq, rfl, rfl⟩
  · refine ty_KI ?_
    have hS := hS1
    refine ty_pure (pc := 6) (ins := .i2l) (ks := []) (by decide +kernel) rfl ?_
    refine ty_lastore (pc := 7) (ks := []) (by decide +kernel) rfl (by first | exact hS.1 _ _ rfl | assumption) (by assumption) (by first | exact hS.2.1 _ _ _ rfl | assumption) (by omega) ?_
    refine ty_goto (pc := 8) (off := 9) (t := 17) (ks := []) (by decide +kernel) ?_
    refine ty_iconst (pc := 17) (n := 0) (ks := []) (by decide +kernel) ?_
    -- at 18: .ireturn
    refine ty_ret_i (pc := 18) (ks := []) (ty := .int) (by decide +kernel) rfl rfl ?_
    exact ⟨0, rfl, _, S1, hq, rfl, rfl⟩
theorem lw_drop (d : Nat) (hS : ty_st S) {p : Int32} (hC : ty_C L xs d 34 [.inr (.inr (some (93, 0))), .inl p] S Qc) (hQ : ∀ o S1, Qc o S1 → ty_st S1 ∧ S1.2.2.2.2.2.2.1 95 = 1 ∧ (o = .inr 0 ∨ o = .inl none)) :
    ty_C L xs (d + 1) 33 [.inr (.inr (some (93, 0))), .inl p] S (ty_oI fun k S' => ∃ o S1, Qc o S1 ∧ lw_k rl_c o S1 k S') := by
  refine ty_enter (ml := 3) (ls := [_, _, _]) rfl rfl (Nat.le_of_ble_eq_true rfl) ?_
  refine ty_aload_n (pc := 0) (i := 0) (ks := []) (by decide +kernel) rfl ?_
  refine ty_iload_n (pc := 1) (i := 1) (ks := []) (by decide +kernel) rfl ?_
  -- at 2: .invokevirtual 21
  refine ty_callv (pc := 2) (idx := 21) (m := 34) (n := 2) (c := 0) (vs := [_]) (r := []) (by decide +kernel) rfl rfl (Nat.le_of_ble_eq_true rfl) (by first | rfl | assumption) (by first | exact hS.1 _ _ rfl | assumption) hC ?_
  intro o S1 hq
  obtain ⟨hS1, hL1, ho⟩ := hQ o S1 hq
  clear hQ hC
  rcases ho with rfl | rfl
  · refine ty_KH (pc' := 8) (by decide +kernel) ?_
    refine ty_astore_n (pc := 8) (i := 2) (ks := []) (ls' := [_, _, _]) (by decide +kernel) rfl ?_
    refine ty_iconst (pc := 9) (n := 1) (ks := []) (by decide +kernel) ?_
    -- at 10: .ireturn
    refine ty_ret_i (pc := 10) (ks := []) (ty := .int) (by decide +kernel) rfl rfl ?_
    exact ⟨1, rfl, _, S1, hq, rfl, rfl⟩
  · refine ty_KV ?_
    have hS := hS1
    refine ty_goto (pc := 5) (off := 6) (t := 11) (ks := []) (by decide +kernel) ?_
    refine ty_iconst (pc := 11) (n := 0) (ks := []) (by decide +kernel) ?_
    -- at 12: .ireturn
    refine ty_ret_i (pc := 12) (ks := []) (ty := .int) (by decide +kernel) rfl rfl ?_
    exact ⟨0, rfl, _, S1, hq, rfl, rfl⟩
theorem lw_ask (d : Nat) (hS : ty_st S) (hC : ty_C L xs d 36 [.inr (.inr (some (93, 0)))] S Qc) (hQ : ∀ o S1, Qc o S1 → ty_st S1 ∧ S1.2.2.2.2.2.2.1 95 = 1 ∧ (o = .inr 0 ∨ o = .inr 2 ∨ o = .inr 1 ∨ o = .inr 3 ∨ ∃ z, o = .inl (some (.inl (ty_J z))))) :
    ty_C L xs (d + 1) 35 [.inr (.inr (some (93, 0))), .inr (.inr (some (95, 0)))] S (ty_oI fun k S' => ∃ o S1, Qc o S1 ∧ lw_k rl_a o S1 k S') := by
  refine ty_enter (ml := 3) (ls := [_, _, _]) rfl rfl (Nat.le_of_ble_eq_true rfl) ?_
  refine ty_aload_n (pc := 0) (i := 1) (ks := []) (by decide +kernel) rfl ?_
  refine ty_iconst (pc := 1) (n := 0) (ks := []) (by decide +kernel) ?_
  refine ty_aload_n (pc := 2) (i := 0) (ks := []) (by decide +kernel) rfl ?_
  -- at 3: .invokevirtual 25
  refine ty_callv (pc := 3) (idx := 25) (m := 36) (n := 1) (c := 0) (vs := []) (r := [_, _]) (by decide +kernel) rfl rfl (Nat.le_of_ble_eq_true rfl) (by first | rfl | assumption) (by first | exact hS.1 _ _ rfl | assumption) hC ?_
  intro o S1 hq
  obtain ⟨hS1, hL1, ho⟩ := hQ o S1 hq
  clear hQ hC
  rcases ho with rfl | rfl | rfl | rfl | ⟨z, rfl⟩
  · refine ty_KH (pc' := 11) (by decide +kernel) ?_
    refine ty_astore_n (pc := 11) (i := 2) (ks := []) (ls' := [_, _, _]) (by decide +kernel) rfl ?_
    refine ty_iconst (pc := 12) (n := 1) (ks := []) (by decide +kernel) ?_
    -- at 13: .ireturn
    refine ty_ret_i (pc := 13) (ks := []) (ty := .int) (by decide +kernel) rfl rfl ?_
    exact ⟨1, rfl, _, S1, hq, rfl, rfl⟩
  · refine ty_KH (pc' := 14) (by decide +kernel) ?_
    refine ty_astore_n (pc := 14) (i := 2) (ks := []) (ls' := [_, _, _]) (by decide +kernel) rfl ?_
    refine ty_iconst (pc := 15) (n := 2) (ks := []) (by decide +kernel) ?_
    -- at 16: .ireturn
    refine ty_ret_i (pc := 16) (ks := []) (ty := .int) (by decide +kernel) rfl rfl ?_
    exact ⟨2, rfl, _, S1, hq, rfl, rfl⟩
  · refine ty_KH (pc' := 17) (by decide +kernel) ?_
    refine ty_astore_n (pc := 17) (i := 2) (ks := []) (ls' := [_, _, _]) (by decide +kernel) rfl ?_
    refine ty_iconst (pc := 18) (n := 3) (ks := []) (by decide +kernel) ?_
    -- at 19: .ireturn
    refine ty_ret_i (pc := 19) (ks := []) (ty := .int) (by decide +kernel) rfl rfl ?_
    exact ⟨3, rfl, _, S1, hq, rfl, rfl⟩
  · refine ty_KH (pc' := 20) (by decide +kernel) ?_
    refine ty_astore_n (pc := 20) (i := 2) (ks := []) (ls' := [_, _, _]) (by decide +kernel) rfl ?_
    refine ty_iconst (pc := 21) (n := 4) (ks := []) (by decide +kernel) ?_
    -- at 22: .ireturn
    refine ty_ret_i (pc := 22) (ks := []) (ty := .int) (by decide +kernel) rfl rfl ?_
    exact ⟨4, rfl, _, S1, hq, rfl, rfl⟩
  · refine ty_KI ?_
    have hS := hS1
    refine ty_pure (pc := 6) (ins := .i2l) (ks := []) (by decide +kernel) rfl ?_
    refine ty_lastore (pc := 7) (ks := []) (by decide +kernel) rfl (by first | exact hS.1 _ _ rfl | assumption) (by assumption) (by first | exact hS.2.1 _ _ _ rfl | assumption) (by omega) ?_
    refine ty_goto (pc := 8) (off := 15) (t := 23) (ks := []) (by decide +kernel) ?_
    refine ty_iconst (pc := 23) (n := 0) (ks := []) (by decide +kernel) ?_
    -- at 24: .ireturn
    refine ty_ret_i (pc := 24) (ks := []) (ty := .int) (by decide +kernel) rfl rfl ?_
    exact ⟨0, rfl, _, S1, hq, rfl, rfl⟩
theorem lw_next (d : Nat) (hS : ty_st S) (hC : ty_C L xs d 93 [.inr (.inr (some (93, 0)))] S Qc) (hQ : ∀ o S1, Qc o S1 → ty_st S1 ∧ S1.2.2.2.2.2.2.1 95 = 1 ∧ (o = .inr 2 ∨ o = .inr 1 ∨ o = .inr 3 ∨ ∃ z, o = .inl (some (.inl (ty_J z))))) :
    ty_C L xs (d + 1) 92 [.inr (.inr (some (93, 0))), .inr (.inr (some (95, 0)))] S (ty_oI fun k S' => ∃ o S1, Qc o S1 ∧ lw_k rl_n o S1 k S') := by
  refine ty_enter (ml := 3) (ls := [_, _, _]) rfl rfl (Nat.le_of_ble_eq_true rfl) ?_
  refine ty_aload_n (pc := 0) (i := 1) (ks := []) (by decide +kernel) rfl ?_
  refine ty_iconst (pc := 1) (n := 0) (ks := []) (by decide +kernel) ?_
  refine ty_aload_n (pc := 2) (i := 0) (ks := []) (by decide +kernel) rfl ?_
  -- at 3: .invokevirtual 32
  refine ty_callv (pc := 3) (idx := 32) (m := 93) (n := 1) (c := 0) (vs := []) (r := [_, _]) (by decide +kernel) rfl rfl (Nat.le_of_ble_eq_true rfl) (by first | rfl | assumption) (by first | exact hS.1 _ _ rfl | assumption) hC ?_
  intro o S1 hq
  obtain ⟨hS1, hL1, ho⟩ := hQ o S1 hq
  clear hQ hC
  rcases ho with rfl | rfl | rfl | ⟨z, rfl⟩
  · refine ty_KH (pc' := 11) (by decide +kernel) ?_
    refine ty_astore_n (pc := 11) (i := 2) (ks := []) (ls' := [_, _, _]) (by decide +kernel) rfl ?_
    refine ty_iconst (pc := 12) (n := 1) (ks := []) (by decide +kernel) ?_
    -- at 13: .ireturn
    refine ty_ret_i (pc := 13) (ks := []) (ty := .int) (by decide +kernel) rfl rfl ?_
    exact ⟨1, rfl, _, S1, hq, rfl, rfl⟩
  · refine ty_KH (pc' := 14) (by decide +kernel) ?_
    refine ty_astore_n (pc := 14) (i := 2) (ks := []) (ls' := [_, _, _]) (by decide +kernel) rfl ?_
    refine ty_iconst (pc := 15) (n := 2) (ks := []) (by decide +kernel) ?_
    -- at 16: .ireturn
    refine ty_ret_i (pc := 16) (ks := []) (ty := .int) (by decide +kernel) rfl rfl ?_
    exact ⟨2, rfl, _, S1, hq, rfl, rfl⟩
  · refine ty_KH (pc' := 17) (by decide +kernel) ?_
    refine ty_astore_n (pc := 17) (i := 2) (ks := []) (ls' := [_, _, _]) (by decide +kernel) rfl ?_
    refine ty_iconst (pc := 18) (n := 3) (ks := []) (by decide +kernel) ?_
    -- at 19: .ireturn
    refine ty_ret_i (pc := 19) (ks := []) (ty := .int) (by decide +kernel) rfl rfl ?_
    exact ⟨3, rfl, _, S1, hq, rfl, rfl⟩
  · refine ty_KI ?_
    have hS := hS1
    refine ty_pure (pc := 6) (ins := .i2l) (ks := []) (by decide +kernel) rfl ?_
    refine ty_lastore (pc := 7) (ks := []) (by decide +kernel) rfl (by first | exact hS.1 _ _ rfl | assumption) (by assumption) (by first | exact hS.2.1 _ _ _ rfl | assumption) (by omega) ?_
    refine ty_goto (pc := 8) (off := 12) (t := 20) (ks := []) (by decide +kernel) ?_
    refine ty_iconst (pc := 20) (n := 0) (ks := []) (by decide +kernel) ?_
    -- at 21: .ireturn
    refine ty_ret_i (pc := 21) (ks := []) (ty := .int) (by decide +kernel) rfl rfl ?_
    exact ⟨0, rfl, _, S1, hq, rfl, rfl⟩
theorem lw_letter (d : Nat) (hS : ty_st S) {p q : Int32} (hC : ty_C L xs d 95 [.inr (.inr (some (93, 0))), .inl p, .inl q] S Qc) (hQ : ∀ o S1, Qc o S1 → ty_st S1 ∧ S1.2.2.2.2.2.2.1 95 = 1 ∧ (o = .inr 0 ∨ o = .inr 2 ∨ ∃ z, o = .inl (some (.inl (ty_J z))))) :
    ty_C L xs (d + 1) 94 [.inr (.inr (some (93, 0))), .inl p, .inl q, .inr (.inr (some (95, 0)))] S (ty_oI fun k S' => ∃ o S1, Qc o S1 ∧ lw_k rl_c o S1 k S') := by
  refine ty_enter (ml := 5) (ls := [_, _, _, _, _]) rfl rfl (Nat.le_of_ble_eq_true rfl) ?_
  refine ty_aload_n (pc := 0) (i := 3) (ks := []) (by decide +kernel) rfl ?_
  refine ty_iconst (pc := 1) (n := 0) (ks := []) (by decide +kernel) ?_
  refine ty_aload_n (pc := 2) (i := 0) (ks := []) (by decide +kernel) rfl ?_
  refine ty_iload_n (pc := 3) (i := 1) (ks := []) (by decide +kernel) rfl ?_
  refine ty_iload_n (pc := 4) (i := 2) (ks := []) (by decide +kernel) rfl ?_
  -- at 5: .invokevirtual 35
  refine ty_callv (pc := 5) (idx := 35) (m := 95) (n := 3) (c := 0) (vs := [_, _]) (r := [_, _]) (by decide +kernel) rfl rfl (Nat.le_of_ble_eq_true rfl) (by first | rfl | assumption) (by first | exact hS.1 _ _ rfl | assumption) hC ?_
  intro o S1 hq
  obtain ⟨hS1, hL1, ho⟩ := hQ o S1 hq
  clear hQ hC
  rcases ho with rfl | rfl | ⟨z, rfl⟩
  · refine ty_KH (pc' := 13) (by decide +kernel) ?_
    refine ty_astore (pc := 13) (i := 4) (ks := []) (ls' := [_, _, _, _, _]) (by decide +kernel) rfl ?_
    refine ty_iconst (pc := 15) (n := 1) (ks := []) (by decide +kernel) ?_
    -- at 16: .ireturn
    refine ty_ret_i (pc := 16) (ks := []) (ty := .int) (by decide +kernel) rfl rfl ?_
    exact ⟨1, rfl, _, S1, hq, rfl, rfl⟩
  · refine ty_KH (pc' := 17) (by decide +kernel) ?_
    refine ty_astore (pc := 17) (i := 4) (ks := []) (ls' := [_, _, _, _, _]) (by decide +kernel) rfl ?_
    refine ty_iconst (pc := 19) (n := 2) (ks := []) (by decide +kernel) ?_
    -- at 20: .ireturn
    refine ty_ret_i (pc := 20) (ks := []) (ty := .int) (by decide +kernel) rfl rfl ?_
    exact ⟨2, rfl, _, S1, hq, rfl, rfl⟩
  · refine ty_KI ?_
    have hS := hS1
    refine ty_pure (pc := 8) (ins := .i2l) (ks := []) (by decide +kernel) rfl ?_
    refine ty_lastore (pc := 9) (ks := []) (by decide +kernel) rfl (by first | exact hS.1 _ _ rfl | assumption) (by assumption) (by first | exact hS.2.1 _ _ _ rfl | assumption) (by omega) ?_
    refine ty_goto (pc := 10) (off := 11) (t := 21) (ks := []) (by decide +kernel) ?_
    refine ty_iconst (pc := 21) (n := 0) (ks := []) (by decide +kernel) ?_
    -- at 22: .ireturn
    refine ty_ret_i (pc := 22) (ks := []) (ty := .int) (by decide +kernel) rfl rfl ?_
    exact ⟨0, rfl, _, S1, hq, rfl, rfl⟩
theorem lw_sleeping (d : Nat) (hS : ty_st S) {p : Int32} (hC : ty_C L xs d 100 [.inr (.inr (some (93, 0))), .inl p] S Qc) (hQ : ∀ o S1, Qc o S1 → ty_st S1 ∧ S1.2.2.2.2.2.2.1 95 = 1 ∧ (o = .inr 0 ∨ ∃ z, o = .inl (some (.inl (ty_J z))))) :
    ty_C L xs (d + 1) 99 [.inr (.inr (some (93, 0))), .inl p, .inr (.inr (some (95, 0)))] S (ty_oI fun k S' => ∃ o S1, Qc o S1 ∧ lw_k rl_c o S1 k S') := by
  refine ty_enter (ml := 4) (ls := [_, _, _, _]) rfl rfl (Nat.le_of_ble_eq_true rfl) ?_
  refine ty_aload_n (pc := 0) (i := 2) (ks := []) (by decide +kernel) rfl ?_
  refine ty_iconst (pc := 1) (n := 0) (ks := []) (by decide +kernel) ?_
  refine ty_aload_n (pc := 2) (i := 0) (ks := []) (by decide +kernel) rfl ?_
  refine ty_iload_n (pc := 3) (i := 1) (ks := []) (by decide +kernel) rfl ?_
  -- at 4: .invokevirtual 39
  refine ty_callv (pc := 4) (idx := 39) (m := 100) (n := 2) (c := 0) (vs := [_]) (r := [_, _]) (by decide +kernel) rfl rfl (Nat.le_of_ble_eq_true rfl) (by first | rfl | assumption) (by first | exact hS.1 _ _ rfl | assumption) hC ?_
  intro o S1 hq
  obtain ⟨hS1, hL1, ho⟩ := hQ o S1 hq
  clear hQ hC
  rcases ho with rfl | ⟨z, rfl⟩
  · refine ty_KH (pc' := 12) (by decide +kernel) ?_
    refine ty_astore_n (pc := 12) (i := 3) (ks := []) (ls' := [_, _, _, _]) (by decide +kernel) rfl ?_
    refine ty_iconst (pc := 13) (n := 1) (ks := []) (by decide +kernel) ?_
    -- at 14: .ireturn
    refine ty_ret_i (pc := 14) (ks := []) (ty := .int) (by decide +kernel) rfl rfl ?_
    exact ⟨1, rfl, _, S1, hq, rfl, rfl⟩
  · refine ty_KI ?_
    have hS := hS1
    refine ty_pure (pc := 7) (ins := .i2l) (ks := []) (by decide +kernel) rfl ?_
    refine ty_lastore (pc := 8) (ks := []) (by decide +kernel) rfl (by first | exact hS.1 _ _ rfl | assumption) (by assumption) (by first | exact hS.2.1 _ _ _ rfl | assumption) (by omega) ?_
    refine ty_goto (pc := 9) (off := 6) (t := 15) (ks := []) (by decide +kernel) ?_
    refine ty_iconst (pc := 15) (n := 0) (ks := []) (by decide +kernel) ?_
    -- at 16: .ireturn
    refine ty_ret_i (pc := 16) (ks := []) (ty := .int) (by decide +kernel) rfl rfl ?_
    exact ⟨0, rfl, _, S1, hq, rfl, rfl⟩
end LWW
