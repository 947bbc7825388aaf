/-! The first goal is begun. -/
theorem mo_dv_eq {G : mo_G} {made : Int} {bd bd' : Int → Int} (hb : mo_bw G made bd) (he : ∀ v, 0 ≤ v → v < made → bd' v = bd v) : ∀ (m : Nat) (v : Int), v.toNat < m → 0 ≤ v → v < made → mo_dv bd' v = mo_dv bd v := by
  have hb' : mo_bw G made bd' := fun v a b => by rw [he v a b]; exact hb v a b
  intro m
  induction m with
  | zero => intro v h; omega
  | succ m ih =>
    intro v h h0 h1
    rw [mo_dv_step hb' h0 h1, mo_dv_step hb h0 h1, he v h0 h1]
    by_cases e5 : bd v = mo_F
    · rw [if_pos e5, if_pos e5]
    · rw [if_neg e5, if_neg e5]
      by_cases e6 : 0 ≤ bd v
      · rw [if_pos e6, if_pos e6]
      · rw [if_neg e6, if_neg e6]
        rcases hb v h0 h1 with z | z | z
        · exact absurd z e5
        · exact absurd z.1 e6
        · exact ih _ (by omega) z.2.1 (by omega)
theorem mo_val_eq {G : mo_G} (hw : mo_wf G) {made : Int} {bd bd' : Int → Int} (hb : mo_bw G made bd) (he : ∀ v, 0 ≤ v → v < made → bd' v = bd v) {t : Int} (ht : mo_ok G made t ∨ (t < 0 ∧ -1 - t < made)) : mo_val G bd' t = mo_val G bd t := by
  unfold mo_val
  by_cases e : t < 0
  · rw [if_pos e, if_pos e]
    have h1 : -1 - t < made := by
      rcases ht with z | z
      · have := z.1; omega
      · exact z.2
    exact mo_dv_eq hb he _ _ (Nat.lt_succ_self _) (by omega) h1
  · rw [if_neg e, if_neg e]
    by_cases e2 : 65 ≤ mo_l G t ∧ mo_l G t ≤ 90
    · rw [if_pos e2, if_pos e2]
      obtain ⟨y1, y2⟩ := mo_ok_var hw (ht.resolve_right (fun z => e z.1)) e2
      exact mo_dv_eq hb he _ _ (Nat.lt_succ_self _) y1 y2
    · rw [if_neg e2, if_neg e2]
section CSF
variable {L : Nat} {xs : Nat → Int32} {S : ty_S}
theorem cv_value (d : Nat) {B F E : ai_A} {n : Nat} {G : mo_G} {made ns : Int} {sl : Int → Int} {st k : Int} {u : mo_U} (hR : cp_R S B F E n G made ns sl st k u) (hw : mo_wf G) (hb : mo_bw G made u.2.1) {t : Int} (ht : mo_ok G made t ∨ (t < 0 ∧ -1 - t < made)) :
    ty_C L xs (d + 2) 75 [.inr (.inr (some (13, 0))), .inl (ty_J t)] S (ty_oI fun z S' => z = mo_val G u.2.1 t ∧ S' = S) := by
  have r8 := hR.2.2.2.2.2.2.2.1.1
  have hb' : mo_bw G made (S.2.2.1 B) := fun v a b => by rw [r8 v a b]; exact hb v a b
  have := cv_valueOf (L := L) (xs := xs) d hR.1 hR.2.1 hR.2.2.1 hw hR.2.2.2.1.1 hR.2.2.2.1.2 hb' ht
  rw [mo_val_eq hw hb r8 ht] at this
  exact this
theorem cs_isLess (d : Nat) (hS : ty_st S) {G : mo_G} (hG : cv_g S G) (hw : mo_wf G) {made x y : Int} (hx : 0 ≤ x → mo_ok G made x) (hy : 0 ≤ y → mo_ok G made y) (hxr : -2147483648 ≤ x) (hyr : -2147483648 ≤ y) (hm : made ≤ 100000) :
    ty_C L xs (d + 2) 77 [.inr (.inr (some (17, 0))), .inl (ty_J x), .inl (ty_J y)] S (ty_oX (ty_oI fun z S' => (0 ≤ x ∧ 0 ≤ y ∧ (48 ≤ mo_l G x ∧ mo_l G x ≤ 57) ∧ 48 ≤ mo_l G y ∧ mo_l G y ≤ 57) ∧ z = (if mo_l G x < mo_l G y then 1 else 0) ∧ S' = S) fun e S' => ¬ (0 ≤ x ∧ 0 ≤ y ∧ (48 ≤ mo_l G x ∧ mo_l G x ≤ 57) ∧ 48 ≤ mo_l G y ∧ mo_l G y ≤ 57) ∧ e = 3 ∧ S' = ty_th S) := by
  have bx : x ≤ 2147483647 := by
    by_cases e : 0 ≤ x
    · have := mo_ok_le hw (hx e); omega
    · omega
  have bY : y ≤ 2147483647 := by
    by_cases e : 0 ≤ y
    · have := mo_ok_le hw (hy e); omega
    · omega
  refine ty_enter (ml := 3) (ls := [_, _, _]) rfl rfl (Nat.le_of_ble_eq_true rfl) ?_
  refine ty_iload_n (pc := 0) (i := 1) (ks := []) (by decide +kernel) rfl ?_
  -- at 1: .ifCond .lt 35
  refine ty_if_lt (pc := 1) (off := 35) (t := 36) (ks := []) (by decide +kernel) (by omega) (fun hc => ?_) (fun hc => ?_)
  · refine ty_throw (pc := 36) (ins := .new 195) (x := 3) (by decide +kernel) (Nat.le_of_ble_eq_true rfl) ?_
    exact .inr ⟨_, rfl, fun z => by omega, rfl, rfl⟩
  have hx0 := hc
  refine ty_iload_n (pc := 4) (i := 2) (ks := []) (by decide +kernel) rfl ?_
  -- at 5: .ifCond .lt 31
  refine ty_if_lt (pc := 5) (off := 31) (t := 36) (ks := []) (by decide +kernel) (by omega) (fun hc => ?_) (fun hc => ?_)
  · refine ty_throw (pc := 36) (ins := .new 195) (x := 3) (by decide +kernel) (Nat.le_of_ble_eq_true rfl) ?_
    exact .inr ⟨_, rfl, fun z => by omega, rfl, rfl⟩
  have hy0 := hc
  have ox := hx hx0
  have oy := hy hy0
  have lx : 0 ≤ mo_l G x ∧ mo_l G x ≤ 65535 := (hw _ ox.2.1).2.1
  have ly : 0 ≤ mo_l G y ∧ mo_l G y ≤ 65535 := (hw _ oy.2.1).2.1
  have hx624 := mo_ok_le hw ox
  have hy624 := mo_ok_le hw oy
  have bx' : 0 ≤ x ∧ x ≤ 2147483647 := ⟨hx0, bx⟩
  have by' : 0 ≤ y ∧ y ≤ 2147483647 := ⟨hy0, bY⟩
  have el : ∀ t, S.2.2.1 (19, 0) (t % 624) = mo_l G t := fun t => by rw [hG.1]; rfl
  have lx' : 0 ≤ S.2.2.1 (19, 0) (x % 624) ∧ S.2.2.1 (19, 0) (x % 624) ≤ 65535 := by rw [el]; exact lx
  have ly' : 0 ≤ S.2.2.1 (19, 0) (y % 624) ∧ S.2.2.1 (19, 0) (y % 624) ≤ 65535 := by rw [el]; exact ly
  refine ty_aload_n (pc := 8) (i := 0) (ks := []) (by decide +kernel) rfl ?_
  refine ty_getS (b := (12, 0)) (pc := 9) (idx := 48) (ci := 5) (f := 0) (by decide +kernel) (by first | rfl | assumption) rfl (by first | exact hS.1 _ _ rfl | assumption) (by first | exact hS.2.2 _ _ _ _ rfl | assumption) ?_
  refine ty_iload_n (pc := 12) (i := 1) (ks := []) (by decide +kernel) rfl ?_
  -- at 13: .invokevirtual 185
  refine ty_callv (pc := 13) (idx := 185) (m := 66) (n := 2) (c := 1) (vs := [_]) (r := []) (by decide +kernel) rfl rfl (Nat.le_of_ble_eq_true rfl) (by first | rfl | assumption) (by first | exact hS.1 _ _ rfl | assumption) (ct_letterOf _ hS bx' lx') ?_
  rintro _ S1 ⟨z, rfl, hz0, rfl⟩
  rw [el] at hz0
  subst hz0
  refine ty_KI ?_
  refine ty_calls (pc := 16) (idx := 191) (m := 25) (n := 1) (c := 0) (av := [_]) (r := []) (by decide +kernel) rfl rfl (Nat.le_of_ble_eq_true rfl) (ct_isDigit _ lx) ?_
  rintro _ S2 ⟨z, rfl, hz, rfl⟩
  refine ty_KI ?_
  have zr : 0 ≤ z ∧ z ≤ 1 := by rw [hz]; split <;> omega
  refine ty_if_eq (pc := 19) (off := 17) (t := 36) (ks := []) (by decide +kernel) (by omega) (fun hc => ?_) (fun hc => ?_)
  · refine ty_throw (pc := 36) (ins := .new 195) (x := 3) (by decide +kernel) (Nat.le_of_ble_eq_true rfl) ?_
    refine .inr ⟨_, rfl, fun w => ?_, rfl, rfl⟩
    rw [if_pos w.2.2.1] at hz
    omega
  have dx : 48 ≤ mo_l G x ∧ mo_l G x ≤ 57 := by
    by_cases e : 48 ≤ mo_l G x ∧ mo_l G x ≤ 57
    · exact e
    · rw [if_neg e] at hz
      exact absurd hz hc
  clear hz zr hc
  refine ty_aload_n (pc := 22) (i := 0) (ks := []) (by decide +kernel) rfl ?_
  refine ty_getS (b := (12, 0)) (pc := 23) (idx := 48) (ci := 5) (f := 0) (by decide +kernel) (by first | rfl | assumption) rfl (by first | exact hS.1 _ _ rfl | assumption) (by first | exact hS.2.2 _ _ _ _ rfl | assumption) ?_
  refine ty_iload_n (pc := 26) (i := 2) (ks := []) (by decide +kernel) rfl ?_
  -- at 27: .invokevirtual 185
  refine ty_callv (pc := 27) (idx := 185) (m := 66) (n := 2) (c := 1) (vs := [_]) (r := []) (by decide +kernel) rfl rfl (Nat.le_of_ble_eq_true rfl) (by first | rfl | assumption) (by first | exact hS.1 _ _ rfl | assumption) (ct_letterOf _ hS by' ly') ?_
  rintro _ S3 ⟨z, rfl, hz0, rfl⟩
  rw [el] at hz0
  subst hz0
  refine ty_KI ?_
  refine ty_calls (pc := 30) (idx := 191) (m := 25) (n := 1) (c := 0) (av := [_]) (r := []) (by decide +kernel) rfl rfl (Nat.le_of_ble_eq_true rfl) (ct_isDigit _ ly) ?_
  rintro _ S4 ⟨z, rfl, hz, rfl⟩
  refine ty_KI ?_
  have zr : 0 ≤ z ∧ z ≤ 1 := by rw [hz]; split <;> omega
  refine ty_if_ne (pc := 33) (off := 11) (t := 44) (ks := []) (by decide +kernel) (by omega) (fun hc => ?_) (fun hc => ?_)
  · have dy : 48 ≤ mo_l G y ∧ mo_l G y ≤ 57 := by
      by_cases e : 48 ≤ mo_l G y ∧ mo_l G y ≤ 57
      · exact e
      · rw [if_neg e] at hz
        exact absurd hz hc
    clear hz zr hc
    refine ty_aload_n (pc := 44) (i := 0) (ks := []) (by decide +kernel) rfl ?_
    refine ty_getS (b := (12, 0)) (pc := 45) (idx := 48) (ci := 5) (f := 0) (by decide +kernel) (by first | rfl | assumption) rfl (by first | exact hS.1 _ _ rfl | assumption) (by first | exact hS.2.2 _ _ _ _ rfl | assumption) ?_
    refine ty_iload_n (pc := 48) (i := 1) (ks := []) (by decide +kernel) rfl ?_
    -- at 49: .invokevirtual 185
    refine ty_callv (pc := 49) (idx := 185) (m := 66) (n := 2) (c := 1) (vs := [_]) (r := []) (by decide +kernel) rfl rfl (Nat.le_of_ble_eq_true rfl) (by first | rfl | assumption) (by first | exact hS.1 _ _ rfl | assumption) (ct_letterOf _ hS bx' lx') ?_
    rintro _ S5 ⟨z, rfl, hz0, rfl⟩
    rw [el] at hz0
    subst hz0
    refine ty_KI ?_
    refine ty_aload_n (pc := 52) (i := 0) (ks := []) (by decide +kernel) rfl ?_
    refine ty_getS (b := (12, 0)) (pc := 53) (idx := 48) (ci := 5) (f := 0) (by decide +kernel) (by first | rfl | assumption) rfl (by first | exact hS.1 _ _ rfl | assumption) (by first | exact hS.2.2 _ _ _ _ rfl | assumption) ?_
    refine ty_iload_n (pc := 56) (i := 2) (ks := []) (by decide +kernel) rfl ?_
    -- at 57: .invokevirtual 185
    refine ty_callv (pc := 57) (idx := 185) (m := 66) (n := 2) (c := 1) (vs := [_]) (r := [_]) (by decide +kernel) rfl rfl (Nat.le_of_ble_eq_true rfl) (by first | rfl | assumption) (by first | exact hS.1 _ _ rfl | assumption) (ct_letterOf _ hS by' ly') ?_
    rintro _ S6 ⟨z, rfl, hz0, rfl⟩
    rw [el] at hz0
    subst hz0
    refine ty_KI ?_
    refine ty_icmp_ge (pc := 60) (off := 7) (t := 67) (ks := []) (by decide +kernel) (by omega) (by omega) (fun hc => ?_) (fun hc => ?_)
    · refine ty_iconst (pc := 67) (n := 0) (ks := []) (by decide +kernel) ?_
      -- at 68: .ireturn
      refine ty_ret_i (pc := 68) (ks := []) (ty := .boolean) (by decide +kernel) rfl (ty_fit_z (by omega)) ?_
      exact .inl ⟨_, rfl, ⟨hx0, hy0, dx, dy⟩, by rw [if_neg (by omega)], rfl⟩
    · refine ty_iconst (pc := 63) (n := 1) (ks := []) (by decide +kernel) ?_
      refine ty_goto (pc := 64) (off := 4) (t := 68) (ks := []) (by decide +kernel) ?_
      -- at 68: .ireturn
      refine ty_ret_i (pc := 68) (ks := []) (ty := .boolean) (by decide +kernel) rfl (ty_fit_z (by omega)) ?_
      exact .inl ⟨_, rfl, ⟨hx0, hy0, dx, dy⟩, by rw [if_pos (by omega)], rfl⟩
  · refine ty_throw (pc := 36) (ins := .new 195) (x := 3) (by decide +kernel) (Nat.le_of_ble_eq_true rfl) ?_
    refine .inr ⟨_, rfl, fun w => ?_, rfl, rfl⟩
    rw [if_pos w.2.2.2] at hz
    omega
end CSF
