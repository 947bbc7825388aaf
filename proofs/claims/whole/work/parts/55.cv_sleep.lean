/-! The class's variables: making them, sleepers. -/
section CVS
variable {L : Nat} {xs : Nat → Int32} {S : ty_S} {B F E : ai_A} {n : Nat}
theorem cv_clear (d : Nat) (hS : ty_st S) : ty_C L xs (d + 1) 39 [.inr (.inr (some (13, 0)))] S (ty_oV fun S' => S' = ty_sI (ty_sI (ty_sI (ty_sI (ty_sI S (13, 0) 4 0) (13, 0) 5 0) (13, 0) 7 0) (13, 0) 10 0) (13, 0) 13 0) := by
  refine ty_enter (ml := 1) (ls := [_]) rfl rfl (Nat.le_of_ble_eq_true rfl) ?_
  refine ty_aload_n (pc := 0) (i := 0) (ks := []) (by decide +kernel) rfl ?_
  refine ty_iconst (pc := 1) (n := 0) (ks := []) (by decide +kernel) ?_
  refine ty_putI (pc := 2) (idx := 21) (ci := 2) (f := 4) (by decide +kernel) (by first | rfl | assumption) rfl rfl (by first | exact hS.1 _ _ rfl | assumption) ?_
  refine ty_aload_n (pc := 5) (i := 0) (ks := []) (by decide +kernel) rfl ?_
  refine ty_iconst (pc := 6) (n := 0) (ks := []) (by decide +kernel) ?_
  refine ty_putI (pc := 7) (idx := 25) (ci := 2) (f := 5) (by decide +kernel) (by first | rfl | assumption) rfl rfl (by first | exact hS.1 _ _ rfl | assumption) ?_
  refine ty_aload_n (pc := 10) (i := 0) (ks := []) (by decide +kernel) rfl ?_
  refine ty_iconst (pc := 11) (n := 0) (ks := []) (by decide +kernel) ?_
  refine ty_putI (pc := 12) (idx := 31) (ci := 2) (f := 7) (by decide +kernel) (by first | rfl | assumption) rfl rfl (by first | exact hS.1 _ _ rfl | assumption) ?_
  refine ty_aload_n (pc := 15) (i := 0) (ks := []) (by decide +kernel) rfl ?_
  refine ty_iconst (pc := 16) (n := 0) (ks := []) (by decide +kernel) ?_
  refine ty_putI (pc := 17) (idx := 40) (ci := 2) (f := 10) (by decide +kernel) (by first | rfl | assumption) rfl rfl (by first | exact hS.1 _ _ rfl | assumption) ?_
  refine ty_aload_n (pc := 20) (i := 0) (ks := []) (by decide +kernel) rfl ?_
  refine ty_iconst (pc := 21) (n := 0) (ks := []) (by decide +kernel) ?_
  refine ty_putI (pc := 22) (idx := 49) (ci := 2) (f := 13) (by decide +kernel) (by first | rfl | assumption) rfl rfl (by first | exact hS.1 _ _ rfl | assumption) ?_
  refine ty_ret_v (pc := 25) (ks := []) (by decide +kernel) rfl ?_
  exact ⟨rfl, rfl⟩
/-- a chain linked behind those that sleep on v -/
def cv_lk (S : ty_S) (F E : ai_A) (v first last gc : Int) : ty_S :=
  ty_sA (if S.2.2.1 E v = -1 then ty_sA (ty_sI (ty_sA (ty_sA S (29, 0) gc v) (30, 0) gc (S.2.2.1 E v)) (13, 0) 13 (gc + 1)) F v first
    else ty_sA (ty_sI (ty_sA (ty_sA S (29, 0) gc v) (30, 0) gc (S.2.2.1 E v)) (13, 0) 13 (gc + 1)) (28, 0) (S.2.2.1 E v) first) E v last
theorem cv_linkBehind (d : Nat) (hS : ty_st S) (hV : cv_sh S B F E n) {v first last gc : Int} (hv : 0 ≤ v ∧ v < n) (hf : -1 ≤ first ∧ first < 500) (hg : S.1 (13, 0) 13 = gc) (hr : 0 ≤ gc ∧ gc < 500) (he : -1 ≤ S.2.2.1 E v ∧ S.2.2.1 E v < 500) :
    ty_C L xs (d + 1) 80 [.inr (.inr (some (13, 0))), .inl (ty_J v), .inl (ty_J first), .inl (ty_J last)] S (ty_oV fun S' => S' = if first = -1 then S else cv_lk S F E v first last gc) := by
  have n29 := cv_ne hV (s := 29) (i := 0) (by decide)
  have n30 := cv_ne hV (s := 30) (i := 0) (by decide)
  have n28 := cv_ne hV (s := 28) (i := 0) (by decide)
  have hne := And.intro n29 (And.intro n30 n28)
  obtain ⟨⟨b1, b2, b3⟩, ⟨k1, k2, k3⟩, ⟨p1, p2, p3⟩, ⟨n1, n2, n3⟩, -, -, hn⟩ := hV
  subst hg
  refine ty_enter (ml := 4) (ls := [_, _, _, _]) rfl rfl (Nat.le_of_ble_eq_true rfl) ?_
  refine ty_iload_n (pc := 0) (i := 2) (ks := []) (by decide +kernel) rfl ?_
  refine ty_iconst (pc := 1) (n := (-1)) (ks := []) (by decide +kernel) ?_
  -- at 2: .if_icmp .eq 13
  refine ty_icmp_eq (pc := 2) (off := 13) (t := 15) (ks := []) (by decide +kernel) (by omega) (by omega) (fun hc => ?_) (fun hc => ?_)
  · refine ty_ret_v (pc := 15) (ks := []) (by decide +kernel) rfl ?_
    rw [if_pos hc]
    exact ⟨rfl, rfl⟩
  · refine ty_aload_n (pc := 5) (i := 0) (ks := []) (by decide +kernel) rfl ?_
    refine ty_getI (pc := 6) (idx := 49) (ci := 2) (f := 13) (by decide +kernel) (by first | rfl | assumption) rfl (by first | exact hS.1 _ _ rfl | assumption) (fun v hv => ?_)
    subst hv
    refine ty_sipush (pc := 9) (n := 500) (ks := []) (by decide +kernel) (by omega) ?_
    -- at 12: .if_icmp .lt 4
    rw [if_neg hc]
    refine ty_icmp_lt (pc := 12) (off := 4) (t := 16) (ks := []) (by decide +kernel) (by omega) (by omega) (fun hc => ?_) (fun hc => ?_)
    · refine ty_aload_n (pc := 16) (i := 0) (ks := []) (by decide +kernel) rfl ?_
      refine ty_getS (b := (29, 0)) (pc := 17) (idx := 43) (ci := 2) (f := 11) (by decide +kernel) (by first | rfl | assumption) rfl (by first | exact hS.1 _ _ rfl | assumption) (by first | exact hS.2.2 _ _ _ _ rfl | assumption) ?_
      refine ty_aload_n (pc := 20) (i := 0) (ks := []) (by decide +kernel) rfl ?_
      refine ty_getI (pc := 21) (idx := 49) (ci := 2) (f := 13) (by decide +kernel) (by first | rfl | assumption) rfl (by first | exact hS.1 _ _ rfl | assumption) (fun v hv => ?_)
      subst hv
      refine ty_iload_n (pc := 24) (i := 1) (ks := []) (by decide +kernel) rfl ?_
      refine ty_iastore (pc := 25) (ks := []) (by decide +kernel) (by first | rfl | assumption) (by rfl) (by first | exact hS.1 _ _ rfl | assumption) (by first | exact hS.2.1 _ _ _ rfl | assumption) (by omega) ?_
      refine ty_aload_n (pc := 26) (i := 0) (ks := []) (by decide +kernel) rfl ?_
      refine ty_getS (b := (30, 0)) (pc := 27) (idx := 46) (ci := 2) (f := 12) (by decide +kernel) (by first | rfl | assumption) rfl (by first | exact hS.1 _ _ rfl | assumption) (by first | exact hS.2.2 _ _ _ _ rfl | assumption) ?_
      refine ty_aload_n (pc := 30) (i := 0) (ks := []) (by decide +kernel) rfl ?_
      refine ty_getI (pc := 31) (idx := 49) (ci := 2) (f := 13) (by decide +kernel) (by first | rfl | assumption) rfl (by first | exact hS.1 _ _ rfl | assumption) (fun v hv => ?_)
      first | simp (decide := true) only [ty_sI, ty_sR, ty_sA, ty_sQ, ty_mA, ty_mQ, ↓reduceIte, false_and, and_false, true_and, and_true, and_self, hne] at hv | simp (decide := true) only [ty_sI, ty_sR, ty_sA, ty_sQ, ty_mA, ty_mQ, ↓reduceIte, false_and, and_false, true_and, and_true, and_self] at hv | skip
      subst hv
      refine ty_aload_n (pc := 34) (i := 0) (ks := []) (by decide +kernel) rfl ?_
      first | refine ty_getS (pc := 35) (idx := 18) (ci := 2) (f := 3) (by decide +kernel) (by first | rfl | assumption) rfl (by first | exact hS.1 _ _ rfl | assumption) (by assumption) ?_ | (refine ty_getR (pc := 35) (idx := 18) (ci := 2) (f := 3) (by decide +kernel) (by first | rfl | assumption) rfl (by first | exact hS.1 _ _ rfl | assumption) (fun v hv => ?_); (first | simp (decide := true) only [ty_sI, ty_sR, ty_sA, ty_sQ, ty_mA, ty_mQ, ↓reduceIte, false_and, and_false, true_and, and_true, and_self, hne] at hv | simp (decide := true) only [ty_sI, ty_sR, ty_sA, ty_sQ, ty_mA, ty_mQ, ↓reduceIte, false_and, and_false, true_and, and_true, and_self] at hv | skip); (subst hv))
      refine ty_iload_n (pc := 38) (i := 1) (ks := []) (by decide +kernel) rfl ?_
      refine ty_iaload (pc := 39) (ks := []) (by decide +kernel) (by first | rfl | assumption) (by rfl) (by first | exact hS.1 _ _ rfl | assumption) (by first | exact hS.2.1 _ _ _ rfl | assumption) (by omega) (fun v hv => ?_)
      first | simp (decide := true) only [ty_sI, ty_sR, ty_sA, ty_sQ, ty_mA, ty_mQ, ↓reduceIte, false_and, and_false, true_and, and_true, and_self, hne] at hv | simp (decide := true) only [ty_sI, ty_sR, ty_sA, ty_sQ, ty_mA, ty_mQ, ↓reduceIte, false_and, and_false, true_and, and_true, and_self] at hv | skip
      subst hv
      refine ty_iastore (pc := 40) (ks := []) (by decide +kernel) (by first | rfl | assumption) (by rfl) (by first | exact hS.1 _ _ rfl | assumption) (by first | exact hS.2.1 _ _ _ rfl | assumption) (by omega) ?_
      refine ty_aload_n (pc := 41) (i := 0) (ks := []) (by decide +kernel) rfl ?_
      refine ty_dup (pc := 42) (ks := []) (by decide +kernel) rfl ?_
      refine ty_getI (pc := 43) (idx := 49) (ci := 2) (f := 13) (by decide +kernel) (by first | rfl | assumption) rfl (by first | exact hS.1 _ _ rfl | assumption) (fun v hv => ?_)
      first | simp (decide := true) only [ty_sI, ty_sR, ty_sA, ty_sQ, ty_mA, ty_mQ, ↓reduceIte, false_and, and_false, true_and, and_true, and_self, hne] at hv | simp (decide := true) only [ty_sI, ty_sR, ty_sA, ty_sQ, ty_mA, ty_mQ, ↓reduceIte, false_and, and_false, true_and, and_true, and_self] at hv | skip
      subst hv
      refine ty_iconst (pc := 46) (n := 1) (ks := []) (by decide +kernel) ?_
      refine ty_iadd (pc := 47) (ks := []) (by decide +kernel) ?_
      refine ty_putI (pc := 48) (idx := 49) (ci := 2) (f := 13) (by decide +kernel) (by first | rfl | assumption) rfl rfl (by first | exact hS.1 _ _ rfl | assumption) ?_
      refine ty_aload_n (pc := 51) (i := 0) (ks := []) (by decide +kernel) rfl ?_
      first | refine ty_getS (pc := 52) (idx := 18) (ci := 2) (f := 3) (by decide +kernel) (by first | rfl | assumption) rfl (by first | exact hS.1 _ _ rfl | assumption) (by assumption) ?_ | (refine ty_getR (pc := 52) (idx := 18) (ci := 2) (f := 3) (by decide +kernel) (by first | rfl | assumption) rfl (by first | exact hS.1 _ _ rfl | assumption) (fun v hv => ?_); (first | simp (decide := true) only [ty_sI, ty_sR, ty_sA, ty_sQ, ty_mA, ty_mQ, ↓reduceIte, false_and, and_false, true_and, and_true, and_self, hne] at hv | simp (decide := true) only [ty_sI, ty_sR, ty_sA, ty_sQ, ty_mA, ty_mQ, ↓reduceIte, false_and, and_false, true_and, and_true, and_self] at hv | skip); (subst hv))
      refine ty_iload_n (pc := 55) (i := 1) (ks := []) (by decide +kernel) rfl ?_
      refine ty_iaload (pc := 56) (ks := []) (by decide +kernel) (by first | rfl | assumption) (by rfl) (by first | exact hS.1 _ _ rfl | assumption) (by first | exact hS.2.1 _ _ _ rfl | assumption) (by omega) (fun v hv => ?_)
      first | simp (decide := true) only [ty_sI, ty_sR, ty_sA, ty_sQ, ty_mA, ty_mQ, ↓reduceIte, false_and, and_false, true_and, and_true, and_self, hne] at hv | simp (decide := true) only [ty_sI, ty_sR, ty_sA, ty_sQ, ty_mA, ty_mQ, ↓reduceIte, false_and, and_false, true_and, and_true, and_self] at hv | skip
      subst hv
      refine ty_iconst (pc := 57) (n := (-1)) (ks := []) (by decide +kernel) ?_
      -- at 58: .if_icmp .ne 13
      refine ty_icmp_ne (pc := 58) (off := 13) (t := 71) (ks := []) (by decide +kernel) (by omega) (by omega) (fun hc => ?_) (fun hc => ?_)
      · refine ty_aload_n (pc := 71) (i := 0) (ks := []) (by decide +kernel) rfl ?_
        refine ty_getS (b := (28, 0)) (pc := 72) (idx := 37) (ci := 2) (f := 9) (by decide +kernel) (by first | rfl | assumption) rfl (by first | exact hS.1 _ _ rfl | assumption) (by first | exact hS.2.2 _ _ _ _ rfl | assumption) ?_
        refine ty_aload_n (pc := 75) (i := 0) (ks := []) (by decide +kernel) rfl ?_
        first | refine ty_getS (pc := 76) (idx := 18) (ci := 2) (f := 3) (by decide +kernel) (by first | rfl | assumption) rfl (by first | exact hS.1 _ _ rfl | assumption) (by assumption) ?_ | (refine ty_getR (pc := 76) (idx := 18) (ci := 2) (f := 3) (by decide +kernel) (by first | rfl | assumption) rfl (by first | exact hS.1 _ _ rfl | assumption) (fun v hv => ?_); (first | simp (decide := true) only [ty_sI, ty_sR, ty_sA, ty_sQ, ty_mA, ty_mQ, ↓reduceIte, false_and, and_false, true_and, and_true, and_self, hne] at hv | simp (decide := true) only [ty_sI, ty_sR, ty_sA, ty_sQ, ty_mA, ty_mQ, ↓reduceIte, false_and, and_false, true_and, and_true, and_self] at hv | skip); (subst hv))
        refine ty_iload_n (pc := 79) (i := 1) (ks := []) (by decide +kernel) rfl ?_
        refine ty_iaload (pc := 80) (ks := []) (by decide +kernel) (by first | rfl | assumption) (by rfl) (by first | exact hS.1 _ _ rfl | assumption) (by first | exact hS.2.1 _ _ _ rfl | assumption) (by omega) (fun v hv => ?_)
        first | simp (decide := true) only [ty_sI, ty_sR, ty_sA, ty_sQ, ty_mA, ty_mQ, ↓reduceIte, false_and, and_false, true_and, and_true, and_self, hne] at hv | simp (decide := true) only [ty_sI, ty_sR, ty_sA, ty_sQ, ty_mA, ty_mQ, ↓reduceIte, false_and, and_false, true_and, and_true, and_self] at hv | skip
        subst hv
        refine ty_iload_n (pc := 81) (i := 2) (ks := []) (by decide +kernel) rfl ?_
        refine ty_iastore (pc := 82) (ks := []) (by decide +kernel) (by first | rfl | assumption) (by rfl) (by first | exact hS.1 _ _ rfl | assumption) (by first | exact hS.2.1 _ _ _ rfl | assumption) (by omega) ?_
        refine ty_aload_n (pc := 83) (i := 0) (ks := []) (by decide +kernel) rfl ?_
        first | refine ty_getS (pc := 84) (idx := 18) (ci := 2) (f := 3) (by decide +kernel) (by first | rfl | assumption) rfl (by first | exact hS.1 _ _ rfl | assumption) (by assumption) ?_ | (refine ty_getR (pc := 84) (idx := 18) (ci := 2) (f := 3) (by decide +kernel) (by first | rfl | assumption) rfl (by first | exact hS.1 _ _ rfl | assumption) (fun v hv => ?_); (first | simp (decide := true) only [ty_sI, ty_sR, ty_sA, ty_sQ, ty_mA, ty_mQ, ↓reduceIte, false_and, and_false, true_and, and_true, and_self, hne] at hv | simp (decide := true) only [ty_sI, ty_sR, ty_sA, ty_sQ, ty_mA, ty_mQ, ↓reduceIte, false_and, and_false, true_and, and_true, and_self] at hv | skip); (subst hv))
        refine ty_iload_n (pc := 87) (i := 1) (ks := []) (by decide +kernel) rfl ?_
        refine ty_iload_n (pc := 88) (i := 3) (ks := []) (by decide +kernel) rfl ?_
        refine ty_iastore (pc := 89) (ks := []) (by decide +kernel) (by first | rfl | assumption) (by rfl) (by first | exact hS.1 _ _ rfl | assumption) (by first | exact hS.2.1 _ _ _ rfl | assumption) (by omega) ?_
        -- at 90: .return_
        refine ty_ret_v (pc := 90) (ks := []) (by decide +kernel) rfl ?_
        refine ⟨rfl, ?_⟩
        unfold cv_lk
        rw [if_neg (by assumption)]
      · refine ty_aload_n (pc := 61) (i := 0) (ks := []) (by decide +kernel) rfl ?_
        first | refine ty_getS (pc := 62) (idx := 15) (ci := 2) (f := 2) (by decide +kernel) (by first | rfl | assumption) rfl (by first | exact hS.1 _ _ rfl | assumption) (by assumption) ?_ | (refine ty_getR (pc := 62) (idx := 15) (ci := 2) (f := 2) (by decide +kernel) (by first | rfl | assumption) rfl (by first | exact hS.1 _ _ rfl | assumption) (fun v hv => ?_); (first | simp (decide := true) only [ty_sI, ty_sR, ty_sA, ty_sQ, ty_mA, ty_mQ, ↓reduceIte, false_and, and_false, true_and, and_true, and_self, hne] at hv | simp (decide := true) only [ty_sI, ty_sR, ty_sA, ty_sQ, ty_mA, ty_mQ, ↓reduceIte, false_and, and_false, true_and, and_true, and_self] at hv | skip); (subst hv))
        refine ty_iload_n (pc := 65) (i := 1) (ks := []) (by decide +kernel) rfl ?_
        refine ty_iload_n (pc := 66) (i := 2) (ks := []) (by decide +kernel) rfl ?_
        refine ty_iastore (pc := 67) (ks := []) (by decide +kernel) (by first | rfl | assumption) (by rfl) (by first | exact hS.1 _ _ rfl | assumption) (by first | exact hS.2.1 _ _ _ rfl | assumption) (by omega) ?_
        refine ty_goto (pc := 68) (off := 15) (t := 83) (ks := []) (by decide +kernel) ?_
        refine ty_aload_n (pc := 83) (i := 0) (ks := []) (by decide +kernel) rfl ?_
        first | refine ty_getS (pc := 84) (idx := 18) (ci := 2) (f := 3) (by decide +kernel) (by first | rfl | assumption) rfl (by first | exact hS.1 _ _ rfl | assumption) (by assumption) ?_ | (refine ty_getR (pc := 84) (idx := 18) (ci := 2) (f := 3) (by decide +kernel) (by first | rfl | assumption) rfl (by first | exact hS.1 _ _ rfl | assumption) (fun v hv => ?_); (first | simp (decide := true) only [ty_sI, ty_sR, ty_sA, ty_sQ, ty_mA, ty_mQ, ↓reduceIte, false_and, and_false, true_and, and_true, and_self, hne] at hv | simp (decide := true) only [ty_sI, ty_sR, ty_sA, ty_sQ, ty_mA, ty_mQ, ↓reduceIte, false_and, and_false, true_and, and_true, and_self] at hv | skip); (subst hv))
        refine ty_iload_n (pc := 87) (i := 1) (ks := []) (by decide +kernel) rfl ?_
        refine ty_iload_n (pc := 88) (i := 3) (ks := []) (by decide +kernel) rfl ?_
        refine ty_iastore (pc := 89) (ks := []) (by decide +kernel) (by first | rfl | assumption) (by rfl) (by first | exact hS.1 _ _ rfl | assumption) (by first | exact hS.2.1 _ _ _ rfl | assumption) (by omega) ?_
        -- at 90: .return_
        refine ty_ret_v (pc := 90) (ks := []) (by decide +kernel) rfl ?_
        refine ⟨rfl, ?_⟩
        unfold cv_lk
        rw [if_pos (by assumption)]
    · omega
/-- one call more that sleeps -/
def cv_ps (S : ty_S) (F E : ai_A) (v call ns gc : Int) : ty_S := cv_lk (ty_sA (ty_sA (ty_sI S (13, 0) 10 (ns + 1)) (27, 0) ns call) (28, 0) ns (-1)) F E v ns ns gc
theorem cv_putToSleep (d : Nat) (hS : ty_st S) (hV : cv_sh S B F E n) {v call ns gc : Int} (hv : 0 ≤ v ∧ v < n) (hg : S.1 (13, 0) 13 = gc) (hr : 0 ≤ gc ∧ gc < 500) (hns : S.1 (13, 0) 10 = ns) (hnr : 0 ≤ ns ∧ ns < 500) (he : -1 ≤ S.2.2.1 E v ∧ S.2.2.1 E v < 500) :
    ty_C L xs (d + 2) 79 [.inr (.inr (some (13, 0))), .inl (ty_J v), .inl (ty_J call)] S (ty_oV fun S' => S' = cv_ps S F E v call ns gc) := by
  have n27 := cv_ne hV (s := 27) (i := 0) (by decide)
  have n28 := cv_ne hV (s := 28) (i := 0) (by decide)
  have hV' := hV
  obtain ⟨⟨b1, b2, b3⟩, ⟨k1, k2, k3⟩, ⟨p1, p2, p3⟩, ⟨n1, n2, n3⟩, -, -, hn⟩ := hV
  subst hns
  refine ty_enter (ml := 4) (ls := [_, _, _, _]) rfl rfl (Nat.le_of_ble_eq_true rfl) ?_
  refine ty_aload_n (pc := 0) (i := 0) (ks := []) (by decide +kernel) rfl ?_
  refine ty_getI (pc := 1) (idx := 40) (ci := 2) (f := 10) (by decide +kernel) (by first | rfl | assumption) rfl (by first | exact hS.1 _ _ rfl | assumption) (fun v hv => ?_)
  subst hv
  refine ty_sipush (pc := 4) (n := 500) (ks := []) (by decide +kernel) (by omega) ?_
  -- at 7: .if_icmp .ge 39
  refine ty_icmp_ge (pc := 7) (off := 39) (t := 46) (ks := []) (by decide +kernel) (by omega) (by omega) (fun hc => ?_) (fun hc => ?_)
  · omega
  · refine ty_aload_n (pc := 10) (i := 0) (ks := []) (by decide +kernel) rfl ?_
    refine ty_getI (pc := 11) (idx := 40) (ci := 2) (f := 10) (by decide +kernel) (by first | rfl | assumption) rfl (by first | exact hS.1 _ _ rfl | assumption) (fun v hv => ?_)
    subst hv
    refine ty_istore_n (pc := 14) (i := 3) (ks := []) (ls' := [_, _, _, _]) (by decide +kernel) rfl ?_
    refine ty_aload_n (pc := 15) (i := 0) (ks := []) (by decide +kernel) rfl ?_
    refine ty_dup (pc := 16) (ks := []) (by decide +kernel) rfl ?_
    refine ty_getI (pc := 17) (idx := 40) (ci := 2) (f := 10) (by decide +kernel) (by first | rfl | assumption) rfl (by first | exact hS.1 _ _ rfl | assumption) (fun v hv => ?_)
    subst hv
    refine ty_iconst (pc := 20) (n := 1) (ks := []) (by decide +kernel) ?_
    refine ty_iadd (pc := 21) (ks := []) (by decide +kernel) ?_
    refine ty_putI (pc := 22) (idx := 40) (ci := 2) (f := 10) (by decide +kernel) (by first | rfl | assumption) rfl rfl (by first | exact hS.1 _ _ rfl | assumption) ?_
    refine ty_aload_n (pc := 25) (i := 0) (ks := []) (by decide +kernel) rfl ?_
    refine ty_getS (b := (27, 0)) (pc := 26) (idx := 34) (ci := 2) (f := 8) (by decide +kernel) (by first | rfl | assumption) rfl (by first | exact hS.1 _ _ rfl | assumption) (by first | exact hS.2.2 _ _ _ _ rfl | assumption) ?_
    refine ty_iload_n (pc := 29) (i := 3) (ks := []) (by decide +kernel) rfl ?_
    refine ty_iload_n (pc := 30) (i := 2) (ks := []) (by decide +kernel) rfl ?_
    refine ty_iastore (pc := 31) (ks := []) (by decide +kernel) (by first | rfl | assumption) (by rfl) (by first | exact hS.1 _ _ rfl | assumption) (by first | exact hS.2.1 _ _ _ rfl | assumption) (by omega) ?_
    refine ty_aload_n (pc := 32) (i := 0) (ks := []) (by decide +kernel) rfl ?_
    refine ty_getS (b := (28, 0)) (pc := 33) (idx := 37) (ci := 2) (f := 9) (by decide +kernel) (by first | rfl | assumption) rfl (by first | exact hS.1 _ _ rfl | assumption) (by first | exact hS.2.2 _ _ _ _ rfl | assumption) ?_
    refine ty_iload_n (pc := 36) (i := 3) (ks := []) (by decide +kernel) rfl ?_
    refine ty_iconst (pc := 37) (n := (-1)) (ks := []) (by decide +kernel) ?_
    refine ty_iastore (pc := 38) (ks := []) (by decide +kernel) (by first | rfl | assumption) (by rfl) (by first | exact hS.1 _ _ rfl | assumption) (by first | exact hS.2.1 _ _ _ rfl | assumption) (by omega) ?_
    refine ty_aload_n (pc := 39) (i := 0) (ks := []) (by decide +kernel) rfl ?_
    refine ty_iload_n (pc := 40) (i := 1) (ks := []) (by decide +kernel) rfl ?_
    refine ty_iload_n (pc := 41) (i := 3) (ks := []) (by decide +kernel) rfl ?_
    refine ty_iload_n (pc := 42) (i := 3) (ks := []) (by decide +kernel) rfl ?_
    -- at 43: .invokevirtual 77
    have hE : (ty_sA (ty_sA (ty_sI S (13, 0) 10 (S.1 (13, 0) 10 + 1)) (27, 0) (S.1 (13, 0) 10) call) (28, 0) (S.1 (13, 0) 10) (-1)).2.2.1 E v = S.2.2.1 E v := by
      simp [ty_sA, ty_sI, n27, n28]
    refine ty_callv (pc := 43) (idx := 77) (m := 80) (n := 4) (c := 2) (vs := [_, _, _]) (r := []) (by decide +kernel) rfl rfl (Nat.le_of_ble_eq_true rfl) (by first | rfl | assumption) (by first | exact hS.1 _ _ rfl | assumption) (cv_linkBehind d (B := B) (F := F) (E := E) (n := n) (gc := gc) (by exact hS) (by exact hV') hv (by omega) (by exact hg) hr (by rw [hE]; exact he)) ?_
    rintro _ S1 ⟨rfl, rfl⟩
    refine ty_KV ?_
    refine ty_ret_v (pc := 46) (ks := []) (by decide +kernel) rfl ?_
    refine ⟨rfl, ?_⟩
    rw [if_neg (by omega)]
    rfl
/-- what was linked is taken back, m of the newest -/
def cv_un (f e x on gb : Int → Int) (gc : Int) : Nat → (Int → Int) × (Int → Int) × (Int → Int)
  | 0 => (f, e, x)
  | m + 1 => (if gb (gc - 1 - m) = -1 then (fun j => if j = on (gc - 1 - m) then -1 else (cv_un f e x on gb gc m).1 j) else (cv_un f e x on gb gc m).1, fun j => if j = on (gc - 1 - m) then gb (gc - 1 - m) else (cv_un f e x on gb gc m).2.1 j,
      if gb (gc - 1 - m) = -1 then (cv_un f e x on gb gc m).2.2 else fun j => if j = gb (gc - 1 - m) then -1 else (cv_un f e x on gb gc m).2.2 j)
theorem cv_un_neg {f e x on gb : Int → Int} {gc : Int} {m : Nat} (h : gb (gc - 1 - m) ≠ -1) : cv_un f e x on gb gc (m + 1) = ((cv_un f e x on gb gc m).1, fun j => if j = on (gc - 1 - m) then gb (gc - 1 - m) else (cv_un f e x on gb gc m).2.1 j, fun j => if j = gb (gc - 1 - m) then -1 else (cv_un f e x on gb gc m).2.2 j) := by
  show (if gb (gc - 1 - m) = -1 then _ else _, _, if gb (gc - 1 - m) = -1 then _ else _) = _
  rw [if_neg h, if_neg h]
theorem cv_un_pos {f e x on gb : Int → Int} {gc : Int} {m : Nat} (h : gb (gc - 1 - m) = -1) : cv_un f e x on gb gc (m + 1) = (fun j => if j = on (gc - 1 - m) then -1 else (cv_un f e x on gb gc m).1 j, fun j => if j = on (gc - 1 - m) then gb (gc - 1 - m) else (cv_un f e x on gb gc m).2.1 j, (cv_un f e x on gb gc m).2.2) := by
  show (if gb (gc - 1 - m) = -1 then _ else _, _, if gb (gc - 1 - m) = -1 then _ else _) = _
  rw [if_pos h, if_pos h]
def cv_m3 (S : ty_S) (F E : ai_A) (q : (Int → Int) × (Int → Int) × (Int → Int)) : ty_S := ty_mA (ty_mA (ty_mA S (28, 0) q.2.2) F q.1) E q.2.1
theorem cv_m3_E {q : (Int → Int) × (Int → Int) × (Int → Int)} {i v : Int} : ty_sA (cv_m3 S F E q) E i v = cv_m3 S F E (q.1, fun j => if j = i then v else q.2.1 j, q.2.2) := ty_sA_mA
theorem ty_mA_comm {a b : ai_A} {f g : Int → Int} (h : ¬ a = b) : ty_mA (ty_mA S a f) b g = ty_mA (ty_mA S b g) a f := by
  unfold ty_mA
  congr 3
  funext c
  by_cases e : c = b
  · have : ¬ b = a := fun z => h z.symm
    simp [e, this]
  · simp [e]
theorem cv_m3_F {q : (Int → Int) × (Int → Int) × (Int → Int)} {i v : Int} (h : ¬ F = E) : ty_sA (cv_m3 S F E q) F i v = cv_m3 S F E (fun j => if j = i then v else q.1 j, q.2) := by
  unfold cv_m3
  rw [ty_sA_mA_ne h, ty_sA_mA]
theorem cv_m3_X {q : (Int → Int) × (Int → Int) × (Int → Int)} {i v : Int} (h : ¬ (28, 0) = E) (h2 : ¬ (28, 0) = F) : ty_sA (cv_m3 S F E q) (28, 0) i v = cv_m3 S F E (q.1, q.2.1, fun j => if j = i then v else q.2.2 j) := by
  unfold cv_m3
  rw [ty_sA_mA_ne h, ty_sA_mA_ne h2, ty_sA_mA]
theorem cv_unlink (d : Nat) (hS : ty_st S) (hV : cv_sh S B F E n) {ks kg gc : Int} (hg : S.1 (13, 0) 13 = gc) (hr : 0 ≤ kg ∧ kg ≤ gc ∧ gc ≤ 500) (ho : ∀ i, kg ≤ i → i < gc → (0 ≤ S.2.2.1 (29, 0) i ∧ S.2.2.1 (29, 0) i < n) ∧ -1 ≤ S.2.2.1 (30, 0) i ∧ S.2.2.1 (30, 0) i < 500) :
    ty_C L xs (d + 1) 83 [.inr (.inr (some (13, 0))), .inl (ty_J ks), .inl (ty_J kg)] S (ty_oV fun S' => S' = ty_sI (ty_sI (cv_m3 S F E (cv_un (S.2.2.1 F) (S.2.2.1 E) (S.2.2.1 (28, 0)) (S.2.2.1 (29, 0)) (S.2.2.1 (30, 0)) gc (gc - kg).toNat)) (13, 0) 13 kg) (13, 0) 10 ks) := by
  have n29 := cv_ne hV (s := 29) (i := 0) (by decide)
  have n30 := cv_ne hV (s := 30) (i := 0) (by decide)
  have n28 := cv_ne hV (s := 28) (i := 0) (by decide)
  have hne := And.intro n29 (And.intro n30 n28)
  obtain ⟨⟨b1, b2, b3⟩, ⟨k1, k2, k3⟩, ⟨p1, p2, p3⟩, ⟨n1, n2, n3⟩, ⟨m1, m2, m3⟩, -, hn⟩ := hV
  have loop : ∀ (r m : Nat) (w : Option ai_V), ai_pl [some (.inr (.inr (some (13, 0)))), some (.inl (ty_J ks)), some (.inl (ty_J kg)), some (.inl (ty_J (gc - 1 - m))), w] 4 = false → (m + r : Int) = gc - kg → ty_W L xs d 83 7 [some (.inr (.inr (some (13, 0)))), some (.inl (ty_J ks)), some (.inl (ty_J kg)), some (.inl (ty_J (gc - 1 - m))), w] [] (cv_m3 S F E (cv_un (S.2.2.1 F) (S.2.2.1 E) (S.2.2.1 (28, 0)) (S.2.2.1 (29, 0)) (S.2.2.1 (30, 0)) gc m))
      (ty_oV fun S' => S' = ty_sI (ty_sI (cv_m3 S F E (cv_un (S.2.2.1 F) (S.2.2.1 E) (S.2.2.1 (28, 0)) (S.2.2.1 (29, 0)) (S.2.2.1 (30, 0)) gc (gc - kg).toNat)) (13, 0) 13 kg) (13, 0) 10 ks) := by
    intro r
    induction r with
    | zero =>
      intro m w _ hm
      refine ty_iload_n (pc := 7) (i := 3) (ks := []) (by decide +kernel) rfl ?_
      refine ty_iload_n (pc := 8) (i := 2) (ks := []) (by decide +kernel) rfl ?_
      -- at 9: .if_icmp .lt 63
      refine ty_icmp_lt (pc := 9) (off := 63) (t := 72) (ks := []) (by decide +kernel) (by omega) (by omega) (fun hc => ?_) (fun hc => ?_)
      · refine ty_aload_n (pc := 72) (i := 0) (ks := []) (by decide +kernel) rfl ?_
        refine ty_iload_n (pc := 73) (i := 2) (ks := []) (by decide +kernel) rfl ?_
        refine ty_putI (pc := 74) (idx := 49) (ci := 2) (f := 13) (by decide +kernel) (by first | rfl | assumption) rfl rfl (by first | exact hS.1 _ _ rfl | assumption) ?_
        refine ty_aload_n (pc := 77) (i := 0) (ks := []) (by decide +kernel) rfl ?_
        refine ty_iload_n (pc := 78) (i := 1) (ks := []) (by decide +kernel) rfl ?_
        refine ty_putI (pc := 79) (idx := 40) (ci := 2) (f := 10) (by decide +kernel) (by first | rfl | assumption) rfl rfl (by first | exact hS.1 _ _ rfl | assumption) ?_
        -- at 82: .return_
        refine ty_ret_v (pc := 82) (ks := []) (by decide +kernel) rfl ?_
        have e : (gc - kg).toNat = m := by omega
        rw [e]
        exact ⟨rfl, rfl⟩
      · omega
    | succ r ih =>
      intro m w _ hm
      have h9 := ho (gc - 1 - m) (by omega) (by omega)
      have eon : (cv_m3 S F E (cv_un (S.2.2.1 F) (S.2.2.1 E) (S.2.2.1 (28, 0)) (S.2.2.1 (29, 0)) (S.2.2.1 (30, 0)) gc m)).2.2.1 (29, 0) = S.2.2.1 (29, 0) := by
        simp [cv_m3, ty_mA, n29]
      have egb : (cv_m3 S F E (cv_un (S.2.2.1 F) (S.2.2.1 E) (S.2.2.1 (28, 0)) (S.2.2.1 (29, 0)) (S.2.2.1 (30, 0)) gc m)).2.2.1 (30, 0) = S.2.2.1 (30, 0) := by
        simp [cv_m3, ty_mA, n30]
      refine ty_iload_n (pc := 7) (i := 3) (ks := []) (by decide +kernel) rfl ?_
      refine ty_iload_n (pc := 8) (i := 2) (ks := []) (by decide +kernel) rfl ?_
      -- at 9: .if_icmp .lt 63
      refine ty_icmp_lt (pc := 9) (off := 63) (t := 72) (ks := []) (by decide +kernel) (by omega) (by omega) (fun hc => ?_) (fun hc => ?_)
      · omega
      · refine ty_aload_n (pc := 12) (i := 0) (ks := []) (by decide +kernel) rfl ?_
        refine ty_getS (b := (29, 0)) (pc := 13) (idx := 43) (ci := 2) (f := 11) (by decide +kernel) (by first | rfl | assumption) rfl (by first | exact hS.1 _ _ rfl | assumption) (by first | exact hS.2.2 _ _ _ _ rfl | assumption) ?_
        refine ty_iload_n (pc := 16) (i := 3) (ks := []) (by decide +kernel) rfl ?_
        refine ty_iaload (pc := 17) (ks := []) (by decide +kernel) (by first | rfl | assumption) (by rfl) (by first | exact hS.1 _ _ rfl | assumption) (by first | exact hS.2.1 _ _ _ rfl | assumption) (by omega) (fun v hv => ?_)
        subst hv
        refine ty_istore (pc := 18) (i := 4) (ks := []) (ls' := [_, _, _, _, _]) (by decide +kernel) rfl ?_
        -- at 20: .aload_n 0
        rw [eon]
        refine ty_aload_n (pc := 20) (i := 0) (ks := []) (by decide +kernel) rfl ?_
        first | refine ty_getS (pc := 21) (idx := 18) (ci := 2) (f := 3) (by decide +kernel) (by first | rfl | assumption) rfl (by first | exact hS.1 _ _ rfl | assumption) (by assumption) ?_ | (refine ty_getR (pc := 21) (idx := 18) (ci := 2) (f := 3) (by decide +kernel) (by first | rfl | assumption) rfl (by first | exact hS.1 _ _ rfl | assumption) (fun v hv => ?_); (subst hv))
        refine ty_iload (pc := 24) (i := 4) (ks := []) (by decide +kernel) rfl ?_
        refine ty_aload_n (pc := 26) (i := 0) (ks := []) (by decide +kernel) rfl ?_
        refine ty_getS (b := (30, 0)) (pc := 27) (idx := 46) (ci := 2) (f := 12) (by decide +kernel) (by first | rfl | assumption) rfl (by first | exact hS.1 _ _ rfl | assumption) (by first | exact hS.2.2 _ _ _ _ rfl | assumption) ?_
        refine ty_iload_n (pc := 30) (i := 3) (ks := []) (by decide +kernel) rfl ?_
        -- at 31: .iaload
        refine ty_iaload (pc := 31) (ks := []) (by decide +kernel) (by rfl) (by rfl) (hS.1 _ _ rfl) (hS.2.1 _ _ _ rfl) (by omega) (fun v hv => ?_)
        rw [egb] at hv
        subst hv
        refine ty_iastore (pc := 32) (ks := []) (by decide +kernel) k3 (by rfl) p3 n3 (by omega) ?_
        rw [cv_m3_E]
        have egb2 : ∀ q : (Int → Int) × (Int → Int) × (Int → Int), (cv_m3 S F E q).2.2.1 (30, 0) = S.2.2.1 (30, 0) := by
          intro q
          simp [cv_m3, ty_mA, n30]
        refine ty_aload_n (pc := 33) (i := 0) (ks := []) (by decide +kernel) rfl ?_
        refine ty_getS (b := (30, 0)) (pc := 34) (idx := 46) (ci := 2) (f := 12) (by decide +kernel) (by first | rfl | assumption) rfl (by first | exact hS.1 _ _ rfl | assumption) (by first | exact hS.2.2 _ _ _ _ rfl | assumption) ?_
        refine ty_iload_n (pc := 37) (i := 3) (ks := []) (by decide +kernel) rfl ?_
        -- at 38: .iaload
        refine ty_iaload (pc := 38) (ks := []) (by decide +kernel) (by rfl) (by rfl) (hS.1 _ _ rfl) (hS.2.1 _ _ _ rfl) (by omega) (fun v hv => ?_)
        rw [egb2] at hv
        subst hv
        refine ty_iconst (pc := 39) (n := (-1)) (ks := []) (by decide +kernel) ?_
        -- at 40: .if_icmp .ne 14
        refine ty_icmp_ne (pc := 40) (off := 14) (t := 54) (ks := []) (by decide +kernel) (by omega) (by omega) (fun hc => ?_) (fun hc => ?_)
        · refine ty_aload_n (pc := 54) (i := 0) (ks := []) (by decide +kernel) rfl ?_
          refine ty_getS (b := (28, 0)) (pc := 55) (idx := 37) (ci := 2) (f := 9) (by decide +kernel) (by first | rfl | assumption) rfl (by first | exact hS.1 _ _ rfl | assumption) (by first | exact hS.2.2 _ _ _ _ rfl | assumption) ?_
          refine ty_aload_n (pc := 58) (i := 0) (ks := []) (by decide +kernel) rfl ?_
          refine ty_getS (b := (30, 0)) (pc := 59) (idx := 46) (ci := 2) (f := 12) (by decide +kernel) (by first | rfl | assumption) rfl (by first | exact hS.1 _ _ rfl | assumption) (by first | exact hS.2.2 _ _ _ _ rfl | assumption) ?_
          refine ty_iload_n (pc := 62) (i := 3) (ks := []) (by decide +kernel) rfl ?_
          -- at 63: .iaload
          refine ty_iaload (pc := 63) (ks := []) (by decide +kernel) (by rfl) (by rfl) (hS.1 _ _ rfl) (hS.2.1 _ _ _ rfl) (by omega) (fun v hv => ?_)
          rw [egb2] at hv
          subst hv
          refine ty_iconst (pc := 64) (n := (-1)) (ks := []) (by decide +kernel) ?_
          -- at 65: .iastore
          refine ty_iastore (pc := 65) (ks := []) (by decide +kernel) (by rfl) (by rfl) (hS.1 _ _ rfl) (hS.2.1 _ _ _ rfl) (by omega) ?_
          rw [cv_m3_X n28.2.2.2 n28.2.2.1]
          refine ty_iinc (pc := 66) (i := 3) (n := (-1)) (ks := []) (ls' := [_, _, _, _, _]) (by decide +kernel) rfl rfl ?_
          refine ty_goto (pc := 69) (off := (-62)) (t := 7) (ks := []) (by decide +kernel) ?_
          -- at 7: .iload_n 3
          have := ih (m + 1) (some (.inl (ty_J (S.2.2.1 (29, 0) (gc - 1 - m))))) rfl (by omega)
          rw [show gc - 1 - ((m + 1 : Nat) : Int) = gc - 1 - m + -1 by omega] at this
          rw [cv_un_neg hc] at this
          exact this
        · refine ty_aload_n (pc := 43) (i := 0) (ks := []) (by decide +kernel) rfl ?_
          first | refine ty_getS (pc := 44) (idx := 15) (ci := 2) (f := 2) (by decide +kernel) (by first | rfl | assumption) rfl (by first | exact hS.1 _ _ rfl | assumption) (by assumption) ?_ | (refine ty_getR (pc := 44) (idx := 15) (ci := 2) (f := 2) (by decide +kernel) (by first | rfl | assumption) rfl (by first | exact hS.1 _ _ rfl | assumption) (fun v hv => ?_); (subst hv))
          refine ty_iload (pc := 47) (i := 4) (ks := []) (by decide +kernel) rfl ?_
          refine ty_iconst (pc := 49) (n := (-1)) (ks := []) (by decide +kernel) ?_
          -- at 50: .iastore
          refine ty_iastore (pc := 50) (ks := []) (by decide +kernel) k2 (by rfl) p2 n2 (by omega) ?_
          rw [cv_m3_F m3]
          refine ty_goto (pc := 51) (off := 15) (t := 66) (ks := []) (by decide +kernel) ?_
          refine ty_iinc (pc := 66) (i := 3) (n := (-1)) (ks := []) (ls' := [_, _, _, _, _]) (by decide +kernel) rfl rfl ?_
          refine ty_goto (pc := 69) (off := (-62)) (t := 7) (ks := []) (by decide +kernel) ?_
          -- at 7: .iload_n 3
          have := ih (m + 1) (some (.inl (ty_J (S.2.2.1 (29, 0) (gc - 1 - m))))) rfl (by omega)
          rw [show gc - 1 - ((m + 1 : Nat) : Int) = gc - 1 - m + -1 by omega] at this
          rw [cv_un_pos hc] at this
          exact this
  refine ty_enter (ml := 5) (ls := [_, _, _, _, _]) rfl rfl (Nat.le_of_ble_eq_true rfl) ?_
  refine ty_aload_n (pc := 0) (i := 0) (ks := []) (by decide +kernel) rfl ?_
  refine ty_getI (pc := 1) (idx := 49) (ci := 2) (f := 13) (by decide +kernel) (by first | rfl | assumption) rfl (by first | exact hS.1 _ _ rfl | assumption) (fun v hv => ?_)
  subst hv
  refine ty_iconst (pc := 4) (n := 1) (ks := []) (by decide +kernel) ?_
  refine ty_isub (pc := 5) (ks := []) (by decide +kernel) ?_
  refine ty_istore_n (pc := 6) (i := 3) (ks := []) (ls' := [_, _, _, _, _]) (by decide +kernel) rfl ?_
  -- at 7: .iload_n 3
  have e0 : cv_m3 S F E (cv_un (S.2.2.1 F) (S.2.2.1 E) (S.2.2.1 (28, 0)) (S.2.2.1 (29, 0)) (S.2.2.1 (30, 0)) gc 0) = S := by
    show ty_mA (ty_mA (ty_mA S (28, 0) (S.2.2.1 (28, 0))) F (S.2.2.1 F)) E (S.2.2.1 E) = S
    rw [ty_mA_self, ty_mA_self, ty_mA_self]
  have := loop (gc - kg).toNat 0 none rfl (by omega)
  rw [e0, show gc - 1 - ((0 : Nat) : Int) = gc - 1 by omega] at this
  rw [hg]
  exact this
end CVS
