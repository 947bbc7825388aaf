/-! Small methods of the class. -/
section CTS
variable {L : Nat} {xs : Nat → Int32} {S : ty_S}
theorem ct_takeOne (d : Nat) (hS : ty_st S) {k : Int} (hk : S.1 (37, 0) 0 = k) (hr : 0 ≤ k ∧ k ≤ 500) : ty_C L xs (d + 1) 63 [.inr (.inr (some (37, 0)))] S (ty_oX (ty_oV fun S' => k < 500 ∧ S' = ty_sI S (37, 0) 0 (k + 1)) fun x S' => 500 ≤ k ∧ x = 1 ∧ S' = ty_th S) := by
  subst hk
  refine ty_enter (ml := 1) (ls := [_]) rfl rfl (Nat.le_of_ble_eq_true rfl) ?_
  refine ty_aload_n (pc := 0) (i := 0) (ks := []) (by decide +kernel) rfl ?_
  refine ty_getI (pc := 1) (idx := 9) (ci := 7) (f := 0) (by decide +kernel) (by first | rfl | assumption) rfl (by first | exact hS.1 _ _ rfl | assumption) (fun v hv => ?_)
  subst hv
  refine ty_sipush (pc := 4) (n := 500) (ks := []) (by decide +kernel) (by omega) ?_
  -- at 7: .if_icmp .lt 11
  refine ty_icmp_lt (pc := 7) (off := 11) (t := 18) (ks := []) (by decide +kernel) (by omega) (by omega) (fun hc => ?_) (fun hc => ?_)
  · refine ty_aload_n (pc := 18) (i := 0) (ks := []) (by decide +kernel) rfl ?_
    refine ty_dup (pc := 19) (ks := []) (by decide +kernel) rfl ?_
    refine ty_getI (pc := 20) (idx := 9) (ci := 7) (f := 0) (by decide +kernel) (by first | rfl | assumption) rfl (by first | exact hS.1 _ _ rfl | assumption) (fun v hv => ?_)
    subst hv
    refine ty_iconst (pc := 23) (n := 1) (ks := []) (by decide +kernel) ?_
    refine ty_iadd (pc := 24) (ks := []) (by decide +kernel) ?_
    refine ty_putI (pc := 25) (idx := 9) (ci := 7) (f := 0) (by decide +kernel) (by first | rfl | assumption) rfl rfl (by first | exact hS.1 _ _ rfl | assumption) ?_
    -- at 28: .return_
    refine ty_ret_v (pc := 28) (ks := []) (by decide +kernel) rfl ?_
    exact .inl ⟨rfl, hc, rfl⟩
  · refine ty_throw (pc := 10) (ins := .new 15) (x := 1) (by decide +kernel) (Nat.le_of_ble_eq_true rfl) ?_
    exact .inr ⟨_, rfl, hc, rfl, rfl⟩
theorem ct_isSmall (d : Nat) {c : Int} (hr : 0 ≤ c ∧ c ≤ 65535) : ty_C L xs (d + 1) 22 [.inl (ty_J c)] S (ty_oI fun z S' => z = (if 97 ≤ c ∧ c ≤ 122 then 1 else 0) ∧ S' = S) := by
  refine ty_enter (ml := 1) (ls := [_]) rfl rfl (Nat.le_of_ble_eq_true rfl) ?_
  refine ty_iload_n (pc := 0) (i := 0) (ks := []) (by decide +kernel) rfl ?_
  refine ty_bipush (pc := 1) (n := 97) (ks := []) (by decide +kernel) (by omega) ?_
  refine ty_icmp_lt (pc := 3) (off := 13) (t := 16) (ks := []) (by decide +kernel) (by omega) (by omega) (fun hc => ?_) (fun hc => ?_)
  · refine ty_iconst (pc := 16) (n := 0) (ks := []) (by decide +kernel) ?_
    refine ty_ret_i (pc := 17) (ks := []) (ty := .boolean) (by decide +kernel) rfl (ty_fit_z (by omega)) ?_
    exact ⟨_, rfl, by first | rw [if_pos (by omega)] | rw [if_neg (by omega)], rfl⟩
  · refine ty_iload_n (pc := 6) (i := 0) (ks := []) (by decide +kernel) rfl ?_
    refine ty_bipush (pc := 7) (n := 122) (ks := []) (by decide +kernel) (by omega) ?_
    refine ty_icmp_gt (pc := 9) (off := 7) (t := 16) (ks := []) (by decide +kernel) (by omega) (by omega) (fun hc => ?_) (fun hc => ?_)
    · refine ty_iconst (pc := 16) (n := 0) (ks := []) (by decide +kernel) ?_
      refine ty_ret_i (pc := 17) (ks := []) (ty := .boolean) (by decide +kernel) rfl (ty_fit_z (by omega)) ?_
      exact ⟨_, rfl, by first | rw [if_pos (by omega)] | rw [if_neg (by omega)], rfl⟩
    · refine ty_iconst (pc := 12) (n := 1) (ks := []) (by decide +kernel) ?_
      refine ty_goto (pc := 13) (off := 4) (t := 17) (ks := []) (by decide +kernel) ?_
      refine ty_ret_i (pc := 17) (ks := []) (ty := .boolean) (by decide +kernel) rfl (ty_fit_z (by omega)) ?_
      exact ⟨_, rfl, by first | rw [if_pos (by omega)] | rw [if_neg (by omega)], rfl⟩
theorem ct_isVariable (d : Nat) {c : Int} (hr : 0 ≤ c ∧ c ≤ 65535) : ty_C L xs (d + 1) 24 [.inl (ty_J c)] S (ty_oI fun z S' => z = (if 65 ≤ c ∧ c ≤ 90 then 1 else 0) ∧ S' = S) := by
  refine ty_enter (ml := 1) (ls := [_]) rfl rfl (Nat.le_of_ble_eq_true rfl) ?_
  refine ty_iload_n (pc := 0) (i := 0) (ks := []) (by decide +kernel) rfl ?_
  refine ty_bipush (pc := 1) (n := 65) (ks := []) (by decide +kernel) (by omega) ?_
  refine ty_icmp_lt (pc := 3) (off := 13) (t := 16) (ks := []) (by decide +kernel) (by omega) (by omega) (fun hc => ?_) (fun hc => ?_)
  · refine ty_iconst (pc := 16) (n := 0) (ks := []) (by decide +kernel) ?_
    refine ty_ret_i (pc := 17) (ks := []) (ty := .boolean) (by decide +kernel) rfl (ty_fit_z (by omega)) ?_
    exact ⟨_, rfl, by first | rw [if_pos (by omega)] | rw [if_neg (by omega)], rfl⟩
  · refine ty_iload_n (pc := 6) (i := 0) (ks := []) (by decide +kernel) rfl ?_
    refine ty_bipush (pc := 7) (n := 90) (ks := []) (by decide +kernel) (by omega) ?_
    refine ty_icmp_gt (pc := 9) (off := 7) (t := 16) (ks := []) (by decide +kernel) (by omega) (by omega) (fun hc => ?_) (fun hc => ?_)
    · refine ty_iconst (pc := 16) (n := 0) (ks := []) (by decide +kernel) ?_
      refine ty_ret_i (pc := 17) (ks := []) (ty := .boolean) (by decide +kernel) rfl (ty_fit_z (by omega)) ?_
      exact ⟨_, rfl, by first | rw [if_pos (by omega)] | rw [if_neg (by omega)], rfl⟩
    · refine ty_iconst (pc := 12) (n := 1) (ks := []) (by decide +kernel) ?_
      refine ty_goto (pc := 13) (off := 4) (t := 17) (ks := []) (by decide +kernel) ?_
      refine ty_ret_i (pc := 17) (ks := []) (ty := .boolean) (by decide +kernel) rfl (ty_fit_z (by omega)) ?_
      exact ⟨_, rfl, by first | rw [if_pos (by omega)] | rw [if_neg (by omega)], rfl⟩
theorem ct_isDigit (d : Nat) {c : Int} (hr : 0 ≤ c ∧ c ≤ 65535) : ty_C L xs (d + 1) 25 [.inl (ty_J c)] S (ty_oI fun z S' => z = (if 48 ≤ c ∧ c ≤ 57 then 1 else 0) ∧ S' = S) := by
  refine ty_enter (ml := 1) (ls := [_]) rfl rfl (Nat.le_of_ble_eq_true rfl) ?_
  refine ty_iload_n (pc := 0) (i := 0) (ks := []) (by decide +kernel) rfl ?_
  refine ty_bipush (pc := 1) (n := 48) (ks := []) (by decide +kernel) (by omega) ?_
  refine ty_icmp_lt (pc := 3) (off := 13) (t := 16) (ks := []) (by decide +kernel) (by omega) (by omega) (fun hc => ?_) (fun hc => ?_)
  · refine ty_iconst (pc := 16) (n := 0) (ks := []) (by decide +kernel) ?_
    refine ty_ret_i (pc := 17) (ks := []) (ty := .boolean) (by decide +kernel) rfl (ty_fit_z (by omega)) ?_
    exact ⟨_, rfl, by first | rw [if_pos (by omega)] | rw [if_neg (by omega)], rfl⟩
  · refine ty_iload_n (pc := 6) (i := 0) (ks := []) (by decide +kernel) rfl ?_
    refine ty_bipush (pc := 7) (n := 57) (ks := []) (by decide +kernel) (by omega) ?_
    refine ty_icmp_gt (pc := 9) (off := 7) (t := 16) (ks := []) (by decide +kernel) (by omega) (by omega) (fun hc => ?_) (fun hc => ?_)
    · refine ty_iconst (pc := 16) (n := 0) (ks := []) (by decide +kernel) ?_
      refine ty_ret_i (pc := 17) (ks := []) (ty := .boolean) (by decide +kernel) rfl (ty_fit_z (by omega)) ?_
      exact ⟨_, rfl, by first | rw [if_pos (by omega)] | rw [if_neg (by omega)], rfl⟩
    · refine ty_iconst (pc := 12) (n := 1) (ks := []) (by decide +kernel) ?_
      refine ty_goto (pc := 13) (off := 4) (t := 17) (ks := []) (by decide +kernel) ?_
      refine ty_ret_i (pc := 17) (ks := []) (ty := .boolean) (by decide +kernel) rfl (ty_fit_z (by omega)) ?_
      exact ⟨_, rfl, by first | rw [if_pos (by omega)] | rw [if_neg (by omega)], rfl⟩
theorem ct_here (d : Nat) (hS : ty_st S) (ht : S.2.1 (16, 0) 1 = some (10, 0)) {p e : Int} (hp : S.1 (16, 0) 3 = p) (he : S.1 (16, 0) 2 = e) (hr : 0 ≤ p ∧ p ≤ 48 ∧ 0 ≤ e ∧ e ≤ 48) (hch : ∀ i, 0 ≤ i → i < 48 → 0 ≤ S.2.2.1 (10, 0) i ∧ S.2.2.1 (10, 0) i ≤ 65535) : ty_C L xs (d + 1) 21 [.inr (.inr (some (16, 0)))] S (ty_oI fun z S' => z = (if p < e then S.2.2.1 (10, 0) p else 0) ∧ S' = S) := by
  subst hp he
  refine ty_enter (ml := 1) (ls := [_]) rfl rfl (Nat.le_of_ble_eq_true rfl) ?_
  refine ty_aload_n (pc := 0) (i := 0) (ks := []) (by decide +kernel) rfl ?_
  refine ty_getI (pc := 1) (idx := 15) (ci := 4) (f := 3) (by decide +kernel) (by first | rfl | assumption) rfl (by first | exact hS.1 _ _ rfl | assumption) (fun v hv => ?_)
  subst hv
  refine ty_aload_n (pc := 4) (i := 0) (ks := []) (by decide +kernel) rfl ?_
  refine ty_getI (pc := 5) (idx := 9) (ci := 4) (f := 2) (by decide +kernel) (by first | rfl | assumption) rfl (by first | exact hS.1 _ _ rfl | assumption) (fun v hv => ?_)
  subst hv
  -- at 8: .if_icmp .ge 15
  refine ty_icmp_ge (pc := 8) (off := 15) (t := 23) (ks := []) (by decide +kernel) (by omega) (by omega) (fun hc => ?_) (fun hc => ?_)
  · refine ty_iconst (pc := 23) (n := 0) (ks := []) (by decide +kernel) ?_
    refine ty_ret_i (pc := 24) (ks := []) (ty := .char) (by decide +kernel) rfl (ty_fit_c (by omega)) ?_
    exact ⟨_, rfl, by rw [if_neg (by omega)], rfl⟩
  · have h9 := hch _ hr.1 (by omega)
    refine ty_aload_n (pc := 11) (i := 0) (ks := []) (by decide +kernel) rfl ?_
    first | refine ty_getS (pc := 12) (idx := 48) (ci := 4) (f := 1) (by decide +kernel) (by first | rfl | assumption) rfl (by first | exact hS.1 _ _ rfl | assumption) (by assumption) ?_ | (refine ty_getR (pc := 12) (idx := 48) (ci := 4) (f := 1) (by decide +kernel) (by first | rfl | assumption) rfl (by first | exact hS.1 _ _ rfl | assumption) (fun v hv => ?_); (subst hv))
    refine ty_aload_n (pc := 15) (i := 0) (ks := []) (by decide +kernel) rfl ?_
    refine ty_getI (pc := 16) (idx := 15) (ci := 4) (f := 3) (by decide +kernel) (by first | rfl | assumption) rfl (by first | exact hS.1 _ _ rfl | assumption) (fun v hv => ?_)
    subst hv
    refine ty_caload (pc := 19) (ks := []) (by decide +kernel) (by first | rfl | assumption) (by rfl) (by first | exact hS.1 _ _ rfl | assumption) (by first | exact hS.2.1 _ _ _ rfl | assumption) (by omega) (fun v hv => ?_)
    subst hv
    refine ty_goto (pc := 20) (off := 4) (t := 24) (ks := []) (by decide +kernel) ?_
    refine ty_ret_i (pc := 24) (ks := []) (ty := .char) (by decide +kernel) rfl (ty_fit_c (by omega)) ?_
    exact ⟨_, rfl, by rw [if_pos (by omega)], rfl⟩
end CTS
