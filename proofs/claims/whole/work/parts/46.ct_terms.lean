/-! Terms. -/
section CTT
variable {L : Nat} {xs : Nat → Int32} {S : ty_S}
theorem ct_letterOf (d : Nat) (hS : ty_st S) {t : Int} (ht : 0 ≤ t ∧ t ≤ 2147483647) (hc : 0 ≤ S.2.2.1 (19, 0) (t % 624) ∧ S.2.2.1 (19, 0) (t % 624) ≤ 65535) : ty_C L xs (d + 1) 66 [.inr (.inr (some (12, 0))), .inl (ty_J t)] S (ty_oI fun z S' => z = S.2.2.1 (19, 0) (t % 624) ∧ S' = S) := by
  refine ty_enter (ml := 2) (ls := [_, _]) rfl rfl (Nat.le_of_ble_eq_true rfl) ?_
  refine ty_aload_n (pc := 0) (i := 0) (ks := []) (by decide +kernel) rfl ?_
  refine ty_getS (b := (19, 0)) (pc := 1) (idx := 9) (ci := 1) (f := 0) (by decide +kernel) (by first | rfl | assumption) rfl (by first | exact hS.1 _ _ rfl | assumption) (by first | exact hS.2.2 _ _ _ _ rfl | assumption) ?_
  refine ty_iload_n (pc := 4) (i := 1) (ks := []) (by decide +kernel) rfl ?_
  refine ty_sipush (pc := 5) (n := 624) (ks := []) (by decide +kernel) (by omega) ?_
  refine ty_irem (pc := 8) (ks := []) (by decide +kernel) (by omega) (by omega) ?_
  refine ty_caload (pc := 9) (ks := []) (by decide +kernel) (by first | rfl | assumption) (by rfl) (by first | exact hS.1 _ _ rfl | assumption) (by first | exact hS.2.1 _ _ _ rfl | assumption) (by omega) (fun v hv => ?_)
  subst hv
  refine ty_ret_i (pc := 10) (ks := []) (ty := .char) (by decide +kernel) rfl (ty_fit_c (by omega)) ?_
  exact ⟨_, rfl, rfl, rfl⟩
theorem ct_arityOf (d : Nat) (hS : ty_st S) {t : Int} (ht : 0 ≤ t ∧ t ≤ 2147483647) : ty_C L xs (d + 1) 67 [.inr (.inr (some (12, 0))), .inl (ty_J t)] S (ty_oI fun z S' => z = S.2.2.1 (20, 0) (t % 624) ∧ S' = S) := by
  refine ty_enter (ml := 2) (ls := [_, _]) rfl rfl (Nat.le_of_ble_eq_true rfl) ?_
  refine ty_aload_n (pc := 0) (i := 0) (ks := []) (by decide +kernel) rfl ?_
  refine ty_getS (b := (20, 0)) (pc := 1) (idx := 15) (ci := 1) (f := 1) (by decide +kernel) (by first | rfl | assumption) rfl (by first | exact hS.1 _ _ rfl | assumption) (by first | exact hS.2.2 _ _ _ _ rfl | assumption) ?_
  refine ty_iload_n (pc := 4) (i := 1) (ks := []) (by decide +kernel) rfl ?_
  refine ty_sipush (pc := 5) (n := 624) (ks := []) (by decide +kernel) (by omega) ?_
  refine ty_irem (pc := 8) (ks := []) (by decide +kernel) (by omega) (by omega) ?_
  refine ty_iaload (pc := 9) (ks := []) (by decide +kernel) (by first | rfl | assumption) (by rfl) (by first | exact hS.1 _ _ rfl | assumption) (by first | exact hS.2.1 _ _ _ rfl | assumption) (by omega) (fun v hv => ?_)
  subst hv
  refine ty_ret_i (pc := 10) (ks := []) (ty := .int) (by decide +kernel) rfl rfl ?_
  exact ⟨_, rfl, rfl, rfl⟩
theorem ct_argumentOf (d : Nat) (hS : ty_st S) {t k : Int} (ht : 0 ≤ t ∧ t ≤ 2147483647) (hk : 0 ≤ k ∧ k < 3) : ty_C L xs (d + 1) 72 [.inr (.inr (some (12, 0))), .inl (ty_J t), .inl (ty_J k)] S (ty_oI fun z S' => z = t - t % 624 + S.2.2.1 (21, 0) (t % 624 * 3 + k) ∧ S' = S) := by
  refine ty_enter (ml := 4) (ls := [_, _, _, _]) rfl rfl (Nat.le_of_ble_eq_true rfl) ?_
  refine ty_iload_n (pc := 0) (i := 1) (ks := []) (by decide +kernel) rfl ?_
  refine ty_sipush (pc := 1) (n := 624) (ks := []) (by decide +kernel) (by omega) ?_
  refine ty_irem (pc := 4) (ks := []) (by decide +kernel) (by omega) (by omega) ?_
  refine ty_istore_n (pc := 5) (i := 3) (ks := []) (ls' := [_, _, _, _]) (by decide +kernel) rfl ?_
  refine ty_iload_n (pc := 6) (i := 1) (ks := []) (by decide +kernel) rfl ?_
  refine ty_iload_n (pc := 7) (i := 3) (ks := []) (by decide +kernel) rfl ?_
  refine ty_isub (pc := 8) (ks := []) (by decide +kernel) ?_
  refine ty_aload_n (pc := 9) (i := 0) (ks := []) (by decide +kernel) rfl ?_
  refine ty_getS (b := (21, 0)) (pc := 10) (idx := 19) (ci := 1) (f := 2) (by decide +kernel) (by first | rfl | assumption) rfl (by first | exact hS.1 _ _ rfl | assumption) (by first | exact hS.2.2 _ _ _ _ rfl | assumption) ?_
  refine ty_iload_n (pc := 13) (i := 3) (ks := []) (by decide +kernel) rfl ?_
  refine ty_iconst (pc := 14) (n := 3) (ks := []) (by decide +kernel) ?_
  refine ty_imul (pc := 15) (ks := []) (by decide +kernel) ?_
  refine ty_iload_n (pc := 16) (i := 2) (ks := []) (by decide +kernel) rfl ?_
  refine ty_iadd (pc := 17) (ks := []) (by decide +kernel) ?_
  refine ty_iaload (pc := 18) (ks := []) (by decide +kernel) (by first | rfl | assumption) (by rfl) (by first | exact hS.1 _ _ rfl | assumption) (by first | exact hS.2.1 _ _ _ rfl | assumption) (by omega) (fun v hv => ?_)
  subst hv
  refine ty_iadd (pc := 19) (ks := []) (by decide +kernel) ?_
  refine ty_ret_i (pc := 20) (ks := []) (ty := .int) (by decide +kernel) rfl rfl ?_
  exact ⟨_, rfl, rfl, rfl⟩
theorem ct_variableOf (d : Nat) (hS : ty_st S) {t : Int} (ht : 0 ≤ t ∧ t ≤ 2147483647) : ty_C L xs (d + 1) 76 [.inr (.inr (some (12, 0))), .inl (ty_J t)] S (ty_oI fun z S' => z = t / 624 + S.2.2.1 (22, 0) (t % 624) ∧ S' = S) := by
  refine ty_enter (ml := 2) (ls := [_, _]) rfl rfl (Nat.le_of_ble_eq_true rfl) ?_
  refine ty_iload_n (pc := 0) (i := 1) (ks := []) (by decide +kernel) rfl ?_
  refine ty_sipush (pc := 1) (n := 624) (ks := []) (by decide +kernel) (by omega) ?_
  refine ty_idiv (pc := 4) (ks := []) (by decide +kernel) (by omega) (by omega) ?_
  refine ty_aload_n (pc := 5) (i := 0) (ks := []) (by decide +kernel) rfl ?_
  refine ty_getS (b := (22, 0)) (pc := 6) (idx := 22) (ci := 1) (f := 3) (by decide +kernel) (by first | rfl | assumption) rfl (by first | exact hS.1 _ _ rfl | assumption) (by first | exact hS.2.2 _ _ _ _ rfl | assumption) ?_
  refine ty_iload_n (pc := 9) (i := 1) (ks := []) (by decide +kernel) rfl ?_
  refine ty_sipush (pc := 10) (n := 624) (ks := []) (by decide +kernel) (by omega) ?_
  refine ty_irem (pc := 13) (ks := []) (by decide +kernel) (by omega) (by omega) ?_
  refine ty_iaload (pc := 14) (ks := []) (by decide +kernel) (by first | rfl | assumption) (by rfl) (by first | exact hS.1 _ _ rfl | assumption) (by first | exact hS.2.1 _ _ _ rfl | assumption) (by omega) (fun v hv => ?_)
  subst hv
  refine ty_iadd (pc := 15) (ks := []) (by decide +kernel) ?_
  refine ty_ret_i (pc := 16) (ks := []) (ty := .int) (by decide +kernel) rfl rfl ?_
  exact ⟨_, rfl, rfl, rfl⟩
theorem ct_termOf (d : Nat) {n b : Int} : ty_C L xs (d + 1) 44 [.inr (.inr (some (12, 0))), .inl (ty_J n), .inl (ty_J b)] S (ty_oI fun z S' => z = b * 624 + n ∧ S' = S) := by
  refine ty_enter (ml := 3) (ls := [_, _, _]) rfl rfl (Nat.le_of_ble_eq_true rfl) ?_
  refine ty_iload_n (pc := 0) (i := 2) (ks := []) (by decide +kernel) rfl ?_
  refine ty_sipush (pc := 1) (n := 624) (ks := []) (by decide +kernel) (by omega) ?_
  refine ty_imul (pc := 4) (ks := []) (by decide +kernel) ?_
  refine ty_iload_n (pc := 5) (i := 1) (ks := []) (by decide +kernel) rfl ?_
  refine ty_iadd (pc := 6) (ks := []) (by decide +kernel) ?_
  refine ty_ret_i (pc := 7) (ks := []) (ty := .int) (by decide +kernel) rfl rfl ?_
  exact ⟨_, rfl, rfl, rfl⟩
end CTT
