/-! Sleepers follow a variable, in the reference. -/
theorem rm_w_comm {A : Nat → Int → Int} {s s' : Nat} {i i' v v' : Int} (h : s ≠ s') : rm_w (rm_w A s i v) s' i' v' = rm_w (rm_w A s' i' v') s i v := by
  funext q j
  unfold rm_w
  by_cases e : q = s ∧ j = i
  · have e' : ¬ (q = s' ∧ j = i') := fun z => h (e.1.symm.trans z.1)
    simp only [if_pos e, if_neg e']
  · simp only [if_neg e]
section RMFO
variable {L : Nat} {xs : Nat → Int32} {S : ty_S} {I : Nat → Int} {A : Nat → Int → Int}
def rf_post (S : ty_S) (I : Nat → Int) (A : Nat → Int → Int) (tl v first last : Int) : ai_O → ty_S → Prop := ty_oV fun S' => ∃ A' tl', S' = rm_s S (rm_u I 32 tl') A' ∧ (tl ≤ tl' ∧ tl' ≤ tl + 3) ∧ (first < 0 → A' = A ∧ tl' = tl) ∧ (0 ≤ first → A' 64 = (if A 64 v < 0 then mo_up (A 64) v first else A 64) ∧ A' 65 = mo_up (A 65) v last ∧ A' 74 = (if A 64 v < 0 then A 74 else mo_up (A 74) (A 65 v) first)) ∧ (∀ q, q ≠ 64 → q ≠ 65 → q ≠ 74 → q ≠ 71 → q ≠ 72 → A' q = A q) ∧ rt_ud A tl A' tl' ∧ rt_ok (A' 71) tl'
theorem rm_follow (d : Nat) (hS : ty_st S) {v first last tl : Int} (ht : I 32 = tl) (hr : 0 ≤ tl ∧ tl + 3 ≤ 6000) (hv : 0 ≤ v ∧ v < 13000) (hh : -1 ≤ A 64 v ∧ A 64 v < 1200) (hta : 0 ≤ A 64 v → 0 ≤ A 65 v ∧ A 65 v < 1200) (hf : -1 ≤ first ∧ first < 1200) (hok : rt_ok (A 71) tl) : ty_C L xs (d + 2) 137 [.inr (.inr (some (94, 0))), .inl (ty_J v), .inl (ty_J first), .inl (ty_J last)] (rm_s S I A) (rf_post S I A tl v first last) := by
  refine ty_enter (ml := 4) (ls := [_, _, _, _]) rfl rfl (Nat.le_of_ble_eq_true rfl) ?_
  refine ty_iload_n (pc := 0) (i := 2) (ks := []) (by decide +kernel) rfl ?_
  -- at 1: .ifCond .ge 4
  refine ty_if_ge (pc := 1) (off := 4) (t := 5) (ks := []) (by decide +kernel) (by omega) (fun hc => ?_) (fun hc => ?_)
  rotate_left
  · refine ty_ret_v (pc := 4) (ks := []) (by decide +kernel) rfl ?_
    exact ⟨rfl, A, tl, by rw [← ht, rm_u_self], ⟨Int.le_refl _, by omega⟩, fun _ => ⟨rfl, rfl⟩, fun z => by omega, fun _ _ _ _ _ _ => rfl, .refl, hok⟩
  have hf0 := hc
  clear hc
  refine ty_aload_n (pc := 5) (i := 0) (ks := []) (by decide +kernel) rfl ?_
  refine ty_iload_n (pc := 6) (i := 1) (ks := []) (by decide +kernel) rfl ?_
  refine ty_iconst (pc := 7) (n := 5) (ks := []) (by decide +kernel) ?_
  refine ty_imul (pc := 8) (ks := []) (by decide +kernel) ?_
  refine ty_iconst (pc := 9) (n := 1) (ks := []) (by decide +kernel) ?_
  refine ty_iadd (pc := 10) (ks := []) (by decide +kernel) ?_
  refine ty_aload_n (pc := 11) (i := 0) (ks := []) (by decide +kernel) rfl ?_
  refine ty_getS (b := (64, 0)) (pc := 12) (idx := 48) (ci := 13) (f := 18) (by decide +kernel) (by first | rfl | assumption) rfl (by first | exact hS.1 _ _ rfl | assumption) (by first | exact hS.2.2 _ _ _ _ rfl | assumption) ?_
  refine ty_iload_n (pc := 15) (i := 1) (ks := []) (by decide +kernel) rfl ?_
  refine ty_iaload (pc := 16) (ks := []) (by decide +kernel) (by first | rfl | assumption) (by rfl) (by first | exact hS.1 _ _ rfl | assumption) (by first | exact hS.2.1 _ _ _ rfl | assumption) (by omega) (fun v hv => ?_)
  rw [rm_A (by decide)] at hv
  first | (simp (decide := true) only [rm_w, ty_sI, ty_sR, ty_sA, ty_sQ, ty_mA, ty_mQ, ↓reduceIte, false_and, and_false, true_and, and_true, and_self] at hv) | skip
  subst hv
  -- at 17: .invokevirtual 225
  refine ty_callv (pc := 17) (idx := 225) (m := 136) (n := 3) (c := 13) (vs := [_, _]) (r := []) (by decide +kernel) rfl rfl (Nat.le_of_ble_eq_true rfl) (by first | rfl | assumption) (by first | exact hS.1 _ _ rfl | assumption) (rm_change d hS ht (by omega)) ?_
  rintro _ S1 ⟨rfl, rfl⟩
  refine ty_KV ?_
  refine ty_aload_n (pc := 20) (i := 0) (ks := []) (by decide +kernel) rfl ?_
  refine ty_iload_n (pc := 21) (i := 1) (ks := []) (by decide +kernel) rfl ?_
  refine ty_iconst (pc := 22) (n := 5) (ks := []) (by decide +kernel) ?_
  refine ty_imul (pc := 23) (ks := []) (by decide +kernel) ?_
  refine ty_iconst (pc := 24) (n := 2) (ks := []) (by decide +kernel) ?_
  refine ty_iadd (pc := 25) (ks := []) (by decide +kernel) ?_
  refine ty_aload_n (pc := 26) (i := 0) (ks := []) (by decide +kernel) rfl ?_
  refine ty_getS (b := (65, 0)) (pc := 27) (idx := 51) (ci := 13) (f := 19) (by decide +kernel) (by first | rfl | assumption) rfl (by first | exact hS.1 _ _ rfl | assumption) (by first | exact hS.2.2 _ _ _ _ rfl | assumption) ?_
  refine ty_iload_n (pc := 30) (i := 1) (ks := []) (by decide +kernel) rfl ?_
  refine ty_iaload (pc := 31) (ks := []) (by decide +kernel) (by first | rfl | assumption) (by rfl) (by first | exact hS.1 _ _ rfl | assumption) (by first | exact hS.2.1 _ _ _ rfl | assumption) (by omega) (fun v hv => ?_)
  rw [rm_A (by decide)] at hv
  first | (simp (decide := true) only [rm_w, ty_sI, ty_sR, ty_sA, ty_sQ, ty_mA, ty_mQ, ↓reduceIte, false_and, and_false, true_and, and_true, and_self] at hv) | skip
  subst hv
  -- at 32: .invokevirtual 225
  refine ty_callv (pc := 32) (idx := 225) (m := 136) (n := 3) (c := 13) (vs := [_, _]) (r := []) (by decide +kernel) rfl rfl (Nat.le_of_ble_eq_true rfl) (by first | rfl | assumption) (by first | exact hS.1 _ _ rfl | assumption) (rm_change d hS (tl := tl + 1) (if_pos rfl) (by omega)) ?_
  rintro _ S1 ⟨rfl, rfl⟩
  refine ty_KV ?_
  rw [rm_u_u]
  refine ty_aload_n (pc := 35) (i := 0) (ks := []) (by decide +kernel) rfl ?_
  refine ty_getS (b := (64, 0)) (pc := 36) (idx := 48) (ci := 13) (f := 18) (by decide +kernel) (by first | rfl | assumption) rfl (by first | exact hS.1 _ _ rfl | assumption) (by first | exact hS.2.2 _ _ _ _ rfl | assumption) ?_
  refine ty_iload_n (pc := 39) (i := 1) (ks := []) (by decide +kernel) rfl ?_
  refine ty_iaload (pc := 40) (ks := []) (by decide +kernel) (by first | rfl | assumption) (by rfl) (by first | exact hS.1 _ _ rfl | assumption) (by first | exact hS.2.1 _ _ _ rfl | assumption) (by omega) (fun v hv => ?_)
  rw [rm_A (by decide)] at hv
  first | (simp (decide := true) only [rm_w, ty_sI, ty_sR, ty_sA, ty_sQ, ty_mA, ty_mQ, ↓reduceIte, false_and, and_false, true_and, and_true, and_self] at hv) | skip
  subst hv
  -- at 41: .ifCond .ge 13
  refine ty_if_ge (pc := 41) (off := 13) (t := 54) (ks := []) (by decide +kernel) (by omega) (fun hc => ?_) (fun hc => ?_)
  · have hh0 := hc
    clear hc
    have hta := hta hh0
    refine ty_aload_n (pc := 54) (i := 0) (ks := []) (by decide +kernel) rfl ?_
    refine ty_aload_n (pc := 55) (i := 0) (ks := []) (by decide +kernel) rfl ?_
    refine ty_getS (b := (65, 0)) (pc := 56) (idx := 51) (ci := 13) (f := 19) (by decide +kernel) (by first | rfl | assumption) rfl (by first | exact hS.1 _ _ rfl | assumption) (by first | exact hS.2.2 _ _ _ _ rfl | assumption) ?_
    refine ty_iload_n (pc := 59) (i := 1) (ks := []) (by decide +kernel) rfl ?_
    refine ty_iaload (pc := 60) (ks := []) (by decide +kernel) (by first | rfl | assumption) (by rfl) (by first | exact hS.1 _ _ rfl | assumption) (by first | exact hS.2.1 _ _ _ rfl | assumption) (by omega) (fun v hv => ?_)
    rw [rm_A (by decide)] at hv
    first | (simp (decide := true) only [rm_w, ty_sI, ty_sR, ty_sA, ty_sQ, ty_mA, ty_mQ, ↓reduceIte, false_and, and_false, true_and, and_true, and_self] at hv) | skip
    subst hv
    refine ty_iconst (pc := 61) (n := 5) (ks := []) (by decide +kernel) ?_
    refine ty_imul (pc := 62) (ks := []) (by decide +kernel) ?_
    refine ty_iconst (pc := 63) (n := 3) (ks := []) (by decide +kernel) ?_
    refine ty_iadd (pc := 64) (ks := []) (by decide +kernel) ?_
    refine ty_aload_n (pc := 65) (i := 0) (ks := []) (by decide +kernel) rfl ?_
    refine ty_getS (b := (74, 0)) (pc := 66) (idx := 78) (ci := 13) (f := 44) (by decide +kernel) (by first | rfl | assumption) rfl (by first | exact hS.1 _ _ rfl | assumption) (by first | exact hS.2.2 _ _ _ _ rfl | assumption) ?_
    refine ty_aload_n (pc := 69) (i := 0) (ks := []) (by decide +kernel) rfl ?_
    refine ty_getS (b := (65, 0)) (pc := 70) (idx := 51) (ci := 13) (f := 19) (by decide +kernel) (by first | rfl | assumption) rfl (by first | exact hS.1 _ _ rfl | assumption) (by first | exact hS.2.2 _ _ _ _ rfl | assumption) ?_
    refine ty_iload_n (pc := 73) (i := 1) (ks := []) (by decide +kernel) rfl ?_
    refine ty_iaload (pc := 74) (ks := []) (by decide +kernel) (by first | rfl | assumption) (by rfl) (by first | exact hS.1 _ _ rfl | assumption) (by first | exact hS.2.1 _ _ _ rfl | assumption) (by omega) (fun v hv => ?_)
    rw [rm_A (by decide)] at hv
    first | (simp (decide := true) only [rm_w, ty_sI, ty_sR, ty_sA, ty_sQ, ty_mA, ty_mQ, ↓reduceIte, false_and, and_false, true_and, and_true, and_self] at hv) | skip
    subst hv
    refine ty_iaload (pc := 75) (ks := []) (by decide +kernel) (by first | rfl | assumption) (by rfl) (by first | exact hS.1 _ _ rfl | assumption) (by first | exact hS.2.1 _ _ _ rfl | assumption) (by omega) (fun v hv => ?_)
    rw [rm_A (by decide)] at hv
    first | (simp (decide := true) only [rm_w, ty_sI, ty_sR, ty_sA, ty_sQ, ty_mA, ty_mQ, ↓reduceIte, false_and, and_false, true_and, and_true, and_self] at hv) | skip
    subst hv
    -- at 76: .invokevirtual 225
    refine ty_callv (pc := 76) (idx := 225) (m := 136) (n := 3) (c := 13) (vs := [_, _]) (r := []) (by decide +kernel) rfl rfl (Nat.le_of_ble_eq_true rfl) (by first | rfl | assumption) (by first | exact hS.1 _ _ rfl | assumption) (rm_change d hS (tl := tl + 1 + 1) (if_pos rfl) (by omega)) ?_
    rintro _ S1 ⟨rfl, rfl⟩
    refine ty_KV ?_
    rw [rm_u_u]
    refine ty_aload_n (pc := 79) (i := 0) (ks := []) (by decide +kernel) rfl ?_
    refine ty_getS (b := (74, 0)) (pc := 80) (idx := 78) (ci := 13) (f := 44) (by decide +kernel) (by first | rfl | assumption) rfl (by first | exact hS.1 _ _ rfl | assumption) (by first | exact hS.2.2 _ _ _ _ rfl | assumption) ?_
    refine ty_aload_n (pc := 83) (i := 0) (ks := []) (by decide +kernel) rfl ?_
    refine ty_getS (b := (65, 0)) (pc := 84) (idx := 51) (ci := 13) (f := 19) (by decide +kernel) (by first | rfl | assumption) rfl (by first | exact hS.1 _ _ rfl | assumption) (by first | exact hS.2.2 _ _ _ _ rfl | assumption) ?_
    refine ty_iload_n (pc := 87) (i := 1) (ks := []) (by decide +kernel) rfl ?_
    refine ty_iaload (pc := 88) (ks := []) (by decide +kernel) (by first | rfl | assumption) (by rfl) (by first | exact hS.1 _ _ rfl | assumption) (by first | exact hS.2.1 _ _ _ rfl | assumption) (by omega) (fun v hv => ?_)
    rw [rm_A (by decide)] at hv
    first | (simp (decide := true) only [rm_w, ty_sI, ty_sR, ty_sA, ty_sQ, ty_mA, ty_mQ, ↓reduceIte, false_and, and_false, true_and, and_true, and_self] at hv) | skip
    subst hv
    refine ty_iload_n (pc := 89) (i := 2) (ks := []) (by decide +kernel) rfl ?_
    refine ty_iastore (pc := 90) (ks := []) (by decide +kernel) (by first | rfl | assumption) (by rfl) (by first | exact hS.1 _ _ rfl | assumption) (by first | exact hS.2.1 _ _ _ rfl | assumption) (by omega) ?_
    rw [rm_sA (by decide)]
    refine ty_aload_n (pc := 91) (i := 0) (ks := []) (by decide +kernel) rfl ?_
    refine ty_getS (b := (65, 0)) (pc := 92) (idx := 51) (ci := 13) (f := 19) (by decide +kernel) (by first | rfl | assumption) rfl (by first | exact hS.1 _ _ rfl | assumption) (by first | exact hS.2.2 _ _ _ _ rfl | assumption) ?_
    refine ty_iload_n (pc := 95) (i := 1) (ks := []) (by decide +kernel) rfl ?_
    refine ty_iload_n (pc := 96) (i := 3) (ks := []) (by decide +kernel) rfl ?_
    refine ty_iastore (pc := 97) (ks := []) (by decide +kernel) (by first | rfl | assumption) (by rfl) (by first | exact hS.1 _ _ rfl | assumption) (by first | exact hS.2.1 _ _ _ rfl | assumption) (by omega) ?_
    rw [rm_sA (by decide)]
    -- at 98: .return_
    refine ty_ret_v (pc := 98) (ks := []) (by decide +kernel) rfl ?_
    generalize hA' : rm_w (rm_w (rm_w (rm_w (rm_w (rm_w (rm_w (rm_w A _ _ _) _ _ _) _ _ _) _ _ _) _ _ _) _ _ _) _ _ _) _ _ _ = A'
    have hAt : ∀ j, A' 71 j = if j = tl + 1 + 1 then A 65 v * 5 + 3 else if j = tl + 1 then v * 5 + 2 else if j = tl then v * 5 + 1 else A 71 j := fun j => by rw [← hA']; simp [rm_w]
    have hOl : ∀ j, A' 72 j = if j = tl + 1 + 1 then A 74 (A 65 v) else if j = tl + 1 then A 65 v else if j = tl then A 64 v else A 72 j := fun j => by rw [← hA']; simp [rm_w]
    have hH : A' 64 = A 64 := by rw [← hA']; funext j; simp [rm_w]
    have hT : A' 65 = mo_up (A 65) v last := by rw [← hA']; funext j; simp [rm_w, mo_up]
    have hN : A' 74 = mo_up (A 74) (A 65 v) first := by rw [← hA']; funext j; simp [rm_w, mo_up]
    have hO : ∀ q, q ≠ 64 → q ≠ 65 → q ≠ 74 → q ≠ 71 → q ≠ 72 → A' q = A q := fun q h1 h2 h3 h4 h5 => by rw [← hA']; funext j; simp [rm_w, h1, h2, h3, h4, h5]
    clear hA'
    have hrr : rr A' = rm_w (rm_w (rr A) 3 (A 65 v) first) 2 v last := by
      rw [← rr_w (s := 74) (by simp), ← rr_w (s := 65) (by simp)]
      refine rr_e ?_ ?_ ?_ ?_ ?_
      · rw [hO _ (by decide) (by decide) (by decide) (by decide) (by decide)]; rfl
      · rw [hH]; rfl
      · rw [hT]; funext j; simp [rm_w, mo_up]
      · rw [hN]; funext j; simp [rm_w, mo_up]
      · rw [hO _ (by decide) (by decide) (by decide) (by decide) (by decide)]; rfl
    refine ⟨rfl, A', tl + 1 + 1 + 1, rfl, by omega, fun z => by omega, fun _ => ⟨by rw [if_neg (by omega)]; exact hH, hT, by rw [if_neg (by omega)]; exact hN⟩, hO, ?_, fun j j0 j1 => ?_⟩
    · have := rt_ud_of (A := A) (A' := A') (tl := tl) 3 (fun j hj => ⟨by rw [hAt, if_neg (by omega), if_neg (by omega), if_neg (by omega)], by rw [hOl, if_neg (by omega), if_neg (by omega), if_neg (by omega)]⟩) ?_
      · rw [show tl + ((3 : Nat) : Int) = tl + 1 + 1 + 1 by omega] at this
        exact this
      · show rm_w (rm_w (rm_w (rr A') (A' 71 (tl + ((2 : Nat) : Int)) % 5).toNat (A' 71 (tl + ((2 : Nat) : Int)) / 5) (A' 72 (tl + ((2 : Nat) : Int)))) (A' 71 (tl + ((1 : Nat) : Int)) % 5).toNat (A' 71 (tl + ((1 : Nat) : Int)) / 5) (A' 72 (tl + ((1 : Nat) : Int)))) (A' 71 (tl + ((0 : Nat) : Int)) % 5).toNat (A' 71 (tl + ((0 : Nat) : Int)) / 5) (A' 72 (tl + ((0 : Nat) : Int))) = rr A
        have a2 : A' 71 (tl + ((2 : Nat) : Int)) = A 65 v * 5 + 3 := by rw [hAt, if_pos (by omega)]
        have a1 : A' 71 (tl + ((1 : Nat) : Int)) = v * 5 + 2 := by rw [hAt, if_neg (by omega), if_pos (by omega)]
        have a0 : A' 71 (tl + ((0 : Nat) : Int)) = v * 5 + 1 := by rw [hAt, if_neg (by omega), if_neg (by omega), if_pos (by omega)]
        have o2 : A' 72 (tl + ((2 : Nat) : Int)) = A 74 (A 65 v) := by rw [hOl, if_pos (by omega)]
        have o1 : A' 72 (tl + ((1 : Nat) : Int)) = A 65 v := by rw [hOl, if_neg (by omega), if_pos (by omega)]
        have o0 : A' 72 (tl + ((0 : Nat) : Int)) = A 64 v := by rw [hOl, if_neg (by omega), if_neg (by omega), if_pos (by omega)]
        rw [a2, a1, a0, o2, o1, o0]
        rw [show ((A 65 v * 5 + 3) % 5).toNat = 3 by omega, show (A 65 v * 5 + 3) / 5 = A 65 v by omega, show ((v * 5 + 2) % 5).toNat = 2 by omega, show (v * 5 + 2) / 5 = v by omega, show ((v * 5 + 1) % 5).toNat = 1 by omega, show (v * 5 + 1) / 5 = v by omega]
        rw [hrr, rm_w_comm (s := 2) (s' := 3) (by decide), rm_w_w, rm_w_w]
        have e3 : rm_w (rr A) 3 (A 65 v) (A 74 (A 65 v)) = rr A := rm_w_id rfl
        have e2 : rm_w (rr A) 2 v (A 65 v) = rr A := rm_w_id rfl
        have e1 : rm_w (rr A) 1 v (A 64 v) = rr A := rm_w_id rfl
        rw [e3, e2, e1]
    · rw [hAt]
      by_cases q1 : j = tl + 1 + 1
      · rw [if_pos q1]; omega
      rw [if_neg q1]
      by_cases q2 : j = tl + 1
      · rw [if_pos q2]; omega
      rw [if_neg q2]
      by_cases q3 : j = tl
      · rw [if_pos q3]; omega
      rw [if_neg q3]
      exact hok j j0 (by omega)
  · have hh0 := hc
    clear hc
    refine ty_aload_n (pc := 44) (i := 0) (ks := []) (by decide +kernel) rfl ?_
    refine ty_getS (b := (64, 0)) (pc := 45) (idx := 48) (ci := 13) (f := 18) (by decide +kernel) (by first | rfl | assumption) rfl (by first | exact hS.1 _ _ rfl | assumption) (by first | exact hS.2.2 _ _ _ _ rfl | assumption) ?_
    refine ty_iload_n (pc := 48) (i := 1) (ks := []) (by decide +kernel) rfl ?_
    refine ty_iload_n (pc := 49) (i := 2) (ks := []) (by decide +kernel) rfl ?_
    refine ty_iastore (pc := 50) (ks := []) (by decide +kernel) (by first | rfl | assumption) (by rfl) (by first | exact hS.1 _ _ rfl | assumption) (by first | exact hS.2.1 _ _ _ rfl | assumption) (by omega) ?_
    rw [rm_sA (by decide)]
    refine ty_goto (pc := 51) (off := 40) (t := 91) (ks := []) (by decide +kernel) ?_
    refine ty_aload_n (pc := 91) (i := 0) (ks := []) (by decide +kernel) rfl ?_
    refine ty_getS (b := (65, 0)) (pc := 92) (idx := 51) (ci := 13) (f := 19) (by decide +kernel) (by first | rfl | assumption) rfl (by first | exact hS.1 _ _ rfl | assumption) (by first | exact hS.2.2 _ _ _ _ rfl | assumption) ?_
    refine ty_iload_n (pc := 95) (i := 1) (ks := []) (by decide +kernel) rfl ?_
    refine ty_iload_n (pc := 96) (i := 3) (ks := []) (by decide +kernel) rfl ?_
    refine ty_iastore (pc := 97) (ks := []) (by decide +kernel) (by first | rfl | assumption) (by rfl) (by first | exact hS.1 _ _ rfl | assumption) (by first | exact hS.2.1 _ _ _ rfl | assumption) (by omega) ?_
    rw [rm_sA (by decide)]
    -- at 98: .return_
    refine ty_ret_v (pc := 98) (ks := []) (by decide +kernel) rfl ?_
    generalize hA' : rm_w (rm_w (rm_w (rm_w (rm_w (rm_w A _ _ _) _ _ _) _ _ _) _ _ _) _ _ _) _ _ _ = A'
    have hAt : ∀ j, A' 71 j = if j = tl + 1 then v * 5 + 2 else if j = tl then v * 5 + 1 else A 71 j := fun j => by rw [← hA']; simp [rm_w]
    have hOl : ∀ j, A' 72 j = if j = tl + 1 then A 65 v else if j = tl then A 64 v else A 72 j := fun j => by rw [← hA']; simp [rm_w]
    have hH : A' 64 = mo_up (A 64) v first := by rw [← hA']; funext j; simp [rm_w, mo_up]
    have hT : A' 65 = mo_up (A 65) v last := by rw [← hA']; funext j; simp [rm_w, mo_up]
    have hN : A' 74 = A 74 := by rw [← hA']; funext j; simp [rm_w]
    have hO : ∀ q, q ≠ 64 → q ≠ 65 → q ≠ 74 → q ≠ 71 → q ≠ 72 → A' q = A q := fun q h1 h2 h3 h4 h5 => by rw [← hA']; funext j; simp [rm_w, h1, h2, h4, h5]
    clear hA'
    have hrr : rr A' = rm_w (rm_w (rr A) 1 v first) 2 v last := by
      rw [← rr_w (s := 64) (by simp), ← rr_w (s := 65) (by simp)]
      refine rr_e ?_ ?_ ?_ ?_ ?_
      · rw [hO _ (by decide) (by decide) (by decide) (by decide) (by decide)]; rfl
      · rw [hH]; funext j; simp [rm_w, mo_up]
      · rw [hT]; funext j; simp [rm_w, mo_up]
      · rw [hN]; rfl
      · rw [hO _ (by decide) (by decide) (by decide) (by decide) (by decide)]; rfl
    refine ⟨rfl, A', tl + 1 + 1, rfl, by omega, fun z => by omega, fun _ => ⟨by rw [if_pos (by omega)]; exact hH, hT, by rw [if_pos (by omega)]; exact hN⟩, hO, ?_, fun j j0 j1 => ?_⟩
    · have := rt_ud_of (A := A) (A' := A') (tl := tl) 2 (fun j hj => ⟨by rw [hAt, if_neg (by omega), if_neg (by omega)], by rw [hOl, if_neg (by omega), if_neg (by omega)]⟩) ?_
      · rw [show tl + ((2 : Nat) : Int) = tl + 1 + 1 by omega] at this
        exact this
      · show rm_w (rm_w (rr A') (A' 71 (tl + ((1 : Nat) : Int)) % 5).toNat (A' 71 (tl + ((1 : Nat) : Int)) / 5) (A' 72 (tl + ((1 : Nat) : Int)))) (A' 71 (tl + ((0 : Nat) : Int)) % 5).toNat (A' 71 (tl + ((0 : Nat) : Int)) / 5) (A' 72 (tl + ((0 : Nat) : Int))) = rr A
        have a1 : A' 71 (tl + ((1 : Nat) : Int)) = v * 5 + 2 := by rw [hAt, if_pos (by omega)]
        have a0 : A' 71 (tl + ((0 : Nat) : Int)) = v * 5 + 1 := by rw [hAt, if_neg (by omega), if_pos (by omega)]
        have o1 : A' 72 (tl + ((1 : Nat) : Int)) = A 65 v := by rw [hOl, if_pos (by omega)]
        have o0 : A' 72 (tl + ((0 : Nat) : Int)) = A 64 v := by rw [hOl, if_neg (by omega), if_pos (by omega)]
        rw [a1, a0, o1, o0]
        rw [show ((v * 5 + 2) % 5).toNat = 2 by omega, show (v * 5 + 2) / 5 = v by omega, show ((v * 5 + 1) % 5).toNat = 1 by omega, show (v * 5 + 1) / 5 = v by omega]
        rw [hrr, rm_w_w, rm_w_comm (s := 2) (s' := 1) (by decide), rm_w_w]
        have e2 : rm_w (rr A) 2 v (A 65 v) = rr A := rm_w_id rfl
        have e1 : rm_w (rr A) 1 v (A 64 v) = rr A := rm_w_id rfl
        rw [e1, e2]
    · rw [hAt]
      by_cases q2 : j = tl + 1
      · rw [if_pos q2]; omega
      rw [if_neg q2]
      by_cases q3 : j = tl
      · rw [if_pos q3]; omega
      rw [if_neg q3]
      exact hok j j0 (by omega)
end RMFO
