/-! The class's pairs. -/
section CPP
variable {L : Nat} {xs : Nat → Int32} {S : ty_S} {B F E : ai_A} {n : Nat} {G : mo_G}
theorem cp_clear (d : Nat) (hS : ty_st S) : ty_C L xs (d + 1) 61 [.inr (.inr (some (38, 0)))] S (ty_oV fun S' => S' = ty_sI (ty_sI S (38, 0) 5 0) (38, 0) 7 0) := by
  refine ty_enter (ml := 1) (ls := [_]) rfl rfl (Nat.le_of_ble_eq_true rfl) ?_
  refine ty_aload_n (pc := 0) (i := 0) (ks := []) (by decide +kernel) rfl ?_
  refine ty_iconst (pc := 1) (n := 0) (ks := []) (by decide +kernel) ?_
  refine ty_putI (pc := 2) (idx := 18) (ci := 8) (f := 5) (by decide +kernel) (by first | rfl | assumption) rfl rfl (by first | exact hS.1 _ _ rfl | assumption) ?_
  refine ty_aload_n (pc := 5) (i := 0) (ks := []) (by decide +kernel) rfl ?_
  refine ty_iconst (pc := 6) (n := 0) (ks := []) (by decide +kernel) ?_
  refine ty_putI (pc := 7) (idx := 25) (ci := 8) (f := 7) (by decide +kernel) (by first | rfl | assumption) rfl rfl (by first | exact hS.1 _ _ rfl | assumption) ?_
  refine ty_ret_v (pc := 10) (ks := []) (by decide +kernel) rfl ?_
  exact ⟨rfl, rfl⟩
theorem cp_put (d : Nat) (hS : ty_st S) {x y o : Int} (ho : S.1 (38, 0) 5 = o) (hr : 0 ≤ o ∧ o < 1003) : ty_C L xs (d + 1) 73 [.inr (.inr (some (38, 0))), .inl (ty_J x), .inl (ty_J y)] S (ty_oV fun S' => S' = ty_sI (ty_sA (ty_sA S (40, 0) o x) (41, 0) o y) (38, 0) 5 (o + 1)) := by
  subst ho
  refine ty_enter (ml := 3) (ls := [_, _, _]) rfl rfl (Nat.le_of_ble_eq_true rfl) ?_
  refine ty_aload_n (pc := 0) (i := 0) (ks := []) (by decide +kernel) rfl ?_
  refine ty_getI (pc := 1) (idx := 18) (ci := 8) (f := 5) (by decide +kernel) (by first | rfl | assumption) rfl (by first | exact hS.1 _ _ rfl | assumption) (fun v hv => ?_)
  subst hv
  refine ty_sipush (pc := 4) (n := 1003) (ks := []) (by decide +kernel) (by omega) ?_
  -- at 7: .if_icmp .ge 33
  refine ty_icmp_ge (pc := 7) (off := 33) (t := 40) (ks := []) (by decide +kernel) (by omega) (by omega) (fun hc => ?_) (fun hc => ?_)
  · omega
  · refine ty_aload_n (pc := 10) (i := 0) (ks := []) (by decide +kernel) rfl ?_
    refine ty_getS (b := (40, 0)) (pc := 11) (idx := 11) (ci := 8) (f := 3) (by decide +kernel) (by first | rfl | assumption) rfl (by first | exact hS.1 _ _ rfl | assumption) (by first | exact hS.2.2 _ _ _ _ rfl | assumption) ?_
    refine ty_aload_n (pc := 14) (i := 0) (ks := []) (by decide +kernel) rfl ?_
    refine ty_getI (pc := 15) (idx := 18) (ci := 8) (f := 5) (by decide +kernel) (by first | rfl | assumption) rfl (by first | exact hS.1 _ _ rfl | assumption) (fun v hv => ?_)
    subst hv
    refine ty_iload_n (pc := 18) (i := 1) (ks := []) (by decide +kernel) rfl ?_
    refine ty_iastore (pc := 19) (ks := []) (by decide +kernel) (by first | rfl | assumption) (by rfl) (by first | exact hS.1 _ _ rfl | assumption) (by first | exact hS.2.1 _ _ _ rfl | assumption) (by omega) ?_
    refine ty_aload_n (pc := 20) (i := 0) (ks := []) (by decide +kernel) rfl ?_
    refine ty_getS (b := (41, 0)) (pc := 21) (idx := 15) (ci := 8) (f := 4) (by decide +kernel) (by first | rfl | assumption) rfl (by first | exact hS.1 _ _ rfl | assumption) (by first | exact hS.2.2 _ _ _ _ rfl | assumption) ?_
    refine ty_aload_n (pc := 24) (i := 0) (ks := []) (by decide +kernel) rfl ?_
    refine ty_getI (pc := 25) (idx := 18) (ci := 8) (f := 5) (by decide +kernel) (by first | rfl | assumption) rfl (by first | exact hS.1 _ _ rfl | assumption) (fun v hv => ?_)
    first | simp (decide := true) only [ty_sI, ty_sR, ty_sA, ty_sQ, ty_mA, ty_mQ, ↓reduceIte, false_and, and_false, true_and, and_true, and_self, hne] at hv | simp (decide := true) only [ty_sI, ty_sR, ty_sA, ty_sQ, ty_mA, ty_mQ, ↓reduceIte, false_and, and_false, true_and, and_true, and_self] at hv | skip
    subst hv
    refine ty_iload_n (pc := 28) (i := 2) (ks := []) (by decide +kernel) rfl ?_
    refine ty_iastore (pc := 29) (ks := []) (by decide +kernel) (by first | rfl | assumption) (by rfl) (by first | exact hS.1 _ _ rfl | assumption) (by first | exact hS.2.1 _ _ _ rfl | assumption) (by omega) ?_
    refine ty_aload_n (pc := 30) (i := 0) (ks := []) (by decide +kernel) rfl ?_
    refine ty_dup (pc := 31) (ks := []) (by decide +kernel) rfl ?_
    refine ty_getI (pc := 32) (idx := 18) (ci := 8) (f := 5) (by decide +kernel) (by first | rfl | assumption) rfl (by first | exact hS.1 _ _ rfl | assumption) (fun v hv => ?_)
    first | simp (decide := true) only [ty_sI, ty_sR, ty_sA, ty_sQ, ty_mA, ty_mQ, ↓reduceIte, false_and, and_false, true_and, and_true, and_self, hne] at hv | simp (decide := true) only [ty_sI, ty_sR, ty_sA, ty_sQ, ty_mA, ty_mQ, ↓reduceIte, false_and, and_false, true_and, and_true, and_self] at hv | skip
    subst hv
    refine ty_iconst (pc := 35) (n := 1) (ks := []) (by decide +kernel) ?_
    refine ty_iadd (pc := 36) (ks := []) (by decide +kernel) ?_
    refine ty_putI (pc := 37) (idx := 18) (ci := 8) (f := 5) (by decide +kernel) (by first | rfl | assumption) rfl rfl (by first | exact hS.1 _ _ rfl | assumption) ?_
    -- at 40: .return_
    refine ty_ret_v (pc := 40) (ks := []) (by decide +kernel) rfl ?_
    exact ⟨rfl, rfl⟩
/-- the stack of pairs l, r, o -/
def cp_s (S : ty_S) (l r : Int → Int) (o : Int) : ty_S := ty_sI (ty_mA (ty_mA S (40, 0) l) (41, 0) r) (38, 0) 5 o
theorem cp_s_put {l r : Int → Int} {o x y : Int} : ty_sI (ty_sA (ty_sA (cp_s S l r o) (40, 0) o x) (41, 0) o y) (38, 0) 5 (o + 1) = cp_s S (mo_up l o x) (mo_up r o y) (o + 1) := by
  unfold cp_s ty_sI ty_sA ty_mA mo_up
  refine Prod.ext ?_ (Prod.ext rfl (Prod.ext ?_ rfl))
  · funext b j
    by_cases e : b = (38, 0) ∧ j = 5
    · simp [e]
    · simp [e]
  · funext b
    funext j
    by_cases e1 : b = (41, 0)
    · subst e1
      simp
    · by_cases e2 : b = (40, 0)
      · subst e2
        simp
      · simp [e1, e2]
theorem cp_s_self : cp_s S (S.2.2.1 (40, 0)) (S.2.2.1 (41, 0)) (S.1 (38, 0) 5) = S := by
  unfold cp_s
  have e : ty_mA (ty_mA S (40, 0) (S.2.2.1 (40, 0))) (41, 0) (S.2.2.1 (41, 0)) = S := by
    rw [ty_mA_self, ty_mA_self]
  rw [e]
  exact ty_sI_self rfl
theorem cp_putArguments (d : Nat) (hS : ty_st S) (hG : cv_g S G) (hw : mo_wf G) {x y made : Int} (hx : mo_ok G made x) (hy : mo_ok G made y) (hxy : mo_a G y = mo_a G x) (hm : made ≤ 100000) {ps : List (Int × Int)} (hst : mo_stk (S.2.2.1 (40, 0)) (S.2.2.1 (41, 0)) (S.1 (38, 0) 5) ps) (hl : ps.length ≤ 1000) :
    ty_C L xs (d + 2) 71 [.inr (.inr (some (38, 0))), .inl (ty_J x), .inl (ty_J y)] S (ty_oV fun S' => ∃ l r o, S' = cp_s S l r o ∧ mo_stk l r o (mo_al G x y (mo_a G x).toNat ps)) := by
  have hax : 0 ≤ mo_a G x ∧ mo_a G x ≤ 3 := (hw _ hx.2.1).2.2.1
  have bx := mo_ok_le hw hx
  have by_ := mo_ok_le hw hy
  have cx := hx.1
  have cy := hy.1
  have loop : ∀ (m : Nat) (l r : Int → Int) (o : Int) (qs : List (Int × Int)), (m : Int) ≤ mo_a G x → mo_stk l r o qs → qs.length + m ≤ 1003 → ty_W L xs (d + 1) 71 11 [some (.inr (.inr (some (38, 0)))), some (.inl (ty_J x)), some (.inl (ty_J y)), some (.inl (ty_J ((m : Int) - 1)))] [] (cp_s S l r o)
      (ty_oV fun S' => ∃ l r o, S' = cp_s S l r o ∧ mo_stk l r o (mo_al G x y m qs)) := by
    intro m
    induction m with
    | zero =>
      intro l r o qs _ hq _
      refine ty_iload_n (pc := 11) (i := 3) (ks := []) (by decide +kernel) rfl ?_
      -- at 12: .ifCond .lt 31
      refine ty_if_lt (pc := 12) (off := 31) (t := 43) (ks := []) (by decide +kernel) (by omega) (fun hc => ?_) (fun hc => ?_)
      · refine ty_ret_v (pc := 43) (ks := []) (by decide +kernel) rfl ?_
        exact ⟨rfl, l, r, o, rfl, hq⟩
      · omega
    | succ m ih =>
      intro l r o qs hm1 hq hlen
      have hol := mo_stk_len hq
      have hGs : cv_g (cp_s S l r o) G := hG
      have hox := mo_ok_arg hw hx (k := m) (by omega) (by omega)
      have hoy := mo_ok_arg hw hy (k := m) (by omega) (by omega)
      rw [show ((m + 1 : Nat) : Int) - 1 = m by omega]
      refine ty_iload_n (pc := 11) (i := 3) (ks := []) (by decide +kernel) rfl ?_
      -- at 12: .ifCond .lt 31
      refine ty_if_lt (pc := 12) (off := 31) (t := 43) (ks := []) (by decide +kernel) (by omega) (fun hc => ?_) (fun hc => ?_)
      · omega
      · refine ty_aload_n (pc := 15) (i := 0) (ks := []) (by decide +kernel) rfl ?_
        refine ty_aload_n (pc := 16) (i := 0) (ks := []) (by decide +kernel) rfl ?_
        refine ty_getS (b := (12, 0)) (pc := 17) (idx := 28) (ci := 8) (f := 0) (by decide +kernel) (by first | rfl | assumption) rfl (by first | exact hS.1 _ _ rfl | assumption) (by first | exact hS.2.2 _ _ _ _ rfl | assumption) ?_
        refine ty_iload_n (pc := 20) (i := 1) (ks := []) (by decide +kernel) rfl ?_
        refine ty_iload_n (pc := 21) (i := 3) (ks := []) (by decide +kernel) rfl ?_
        -- at 22: .invokevirtual 46
        refine ty_callv (pc := 22) (idx := 46) (m := 72) (n := 3) (c := 1) (vs := [_, _]) (r := [_]) (by decide +kernel) rfl rfl (Nat.le_of_ble_eq_true rfl) (by first | rfl | assumption) (by first | exact hS.1 _ _ rfl | assumption) (ct_argumentOf d (by exact hS) (by omega) (by omega)) ?_
        rintro _ S1 ⟨z, rfl, rfl, rfl⟩
        rw [show x - x % 624 + (cp_s S l r o).2.2.1 (21, 0) (x % 624 * 3 + (m : Int)) = mo_g G x m by rw [hGs.2.2.1]; rfl]
        refine ty_KI ?_
        refine ty_aload_n (pc := 25) (i := 0) (ks := []) (by decide +kernel) rfl ?_
        refine ty_getS (b := (12, 0)) (pc := 26) (idx := 28) (ci := 8) (f := 0) (by decide +kernel) (by first | rfl | assumption) rfl (by first | exact hS.1 _ _ rfl | assumption) (by first | exact hS.2.2 _ _ _ _ rfl | assumption) ?_
        refine ty_iload_n (pc := 29) (i := 2) (ks := []) (by decide +kernel) rfl ?_
        refine ty_iload_n (pc := 30) (i := 3) (ks := []) (by decide +kernel) rfl ?_
        -- at 31: .invokevirtual 46
        refine ty_callv (pc := 31) (idx := 46) (m := 72) (n := 3) (c := 1) (vs := [_, _]) (r := [_, _]) (by decide +kernel) rfl rfl (Nat.le_of_ble_eq_true rfl) (by first | rfl | assumption) (by first | exact hS.1 _ _ rfl | assumption) (ct_argumentOf d (by exact hS) (by omega) (by omega)) ?_
        rintro _ S2 ⟨z, rfl, rfl, rfl⟩
        rw [show y - y % 624 + (cp_s S l r o).2.2.1 (21, 0) (y % 624 * 3 + (m : Int)) = mo_g G y m by rw [hGs.2.2.1]; rfl]
        refine ty_KI ?_
        refine ty_callv (pc := 34) (idx := 50) (m := 73) (n := 3) (c := 8) (vs := [_, _]) (r := []) (by decide +kernel) rfl rfl (Nat.le_of_ble_eq_true rfl) (by first | rfl | assumption) (by first | exact hS.1 _ _ rfl | assumption) (cp_put d (o := o) (by exact hS) (by rfl) (by omega)) ?_
        rintro _ S3 ⟨rfl, rfl⟩
        refine ty_KV ?_
        rw [cp_s_put]
        refine ty_iinc (pc := 37) (i := 3) (n := (-1)) (ks := []) (ls' := [_, _, _, _]) (by decide +kernel) rfl rfl ?_
        refine ty_goto (pc := 40) (off := (-29)) (t := 11) (ks := []) (by decide +kernel) ?_
        -- at 11: .iload_n 3
        have := ih (mo_up l o (mo_g G x m)) (mo_up r o (mo_g G y m)) (o + 1) ((mo_g G x m, mo_g G y m) :: qs) (by omega) (mo_stk_put hq) (by simp only [List.length_cons]; omega)
        rw [show (m : Int) - 1 = (m : Int) + -1 by omega] at this
        exact this
  refine ty_enter (ml := 4) (ls := [_, _, _, _]) rfl rfl (Nat.le_of_ble_eq_true rfl) ?_
  refine ty_aload_n (pc := 0) (i := 0) (ks := []) (by decide +kernel) rfl ?_
  refine ty_getS (b := (12, 0)) (pc := 1) (idx := 28) (ci := 8) (f := 0) (by decide +kernel) (by first | rfl | assumption) rfl (by first | exact hS.1 _ _ rfl | assumption) (by first | exact hS.2.2 _ _ _ _ rfl | assumption) ?_
  refine ty_iload_n (pc := 4) (i := 1) (ks := []) (by decide +kernel) rfl ?_
  -- at 5: .invokevirtual 40
  refine ty_callv (pc := 5) (idx := 40) (m := 67) (n := 2) (c := 1) (vs := [_]) (r := []) (by decide +kernel) rfl rfl (Nat.le_of_ble_eq_true rfl) (by first | rfl | assumption) (by first | exact hS.1 _ _ rfl | assumption) (ct_arityOf d hS (by omega)) ?_
  rintro _ S1 ⟨z, rfl, rfl, rfl⟩
  refine ty_KI ?_
  rw [show S1.2.2.1 (20, 0) (x % 624) = mo_a G x by rw [hG.2.1]; rfl]
  refine ty_iconst (pc := 8) (n := 1) (ks := []) (by decide +kernel) ?_
  refine ty_isub (pc := 9) (ks := []) (by decide +kernel) ?_
  refine ty_istore_n (pc := 10) (i := 3) (ks := []) (ls' := [_, _, _, _]) (by decide +kernel) rfl ?_
  -- at 11: .iload_n 3
  have hol := mo_stk_len hst
  have := loop (mo_a G x).toNat _ _ _ ps (by omega) hst (by omega)
  rw [cp_s_self, show (((mo_a G x).toNat : Nat) : Int) = mo_a G x by omega] at this
  exact this
/-- those that sleep on v wake -/
theorem cp_wake (d : Nat) (hS : ty_st S) (hV : cv_sh S B F E n) {v wc : Int} (hv : 0 ≤ v ∧ v < n) (hwc : S.1 (38, 0) 7 = wc) {es : List Int} (hl : mo_lnk (S.2.2.1 (28, 0)) (S.2.2.1 F v) es) (he : ∀ e ∈ es, e < 500) (hr : 0 ≤ wc ∧ wc + es.length ≤ 500) :
    ty_C L xs (d + 1) 88 [.inr (.inr (some (38, 0))), .inl (ty_J v)] S (ty_oV fun S' => ∃ w, S' = ty_sI (ty_mA S (42, 0) w) (38, 0) 7 (wc + es.length) ∧ (∀ i, i < wc → w i = S.2.2.1 (42, 0) i) ∧ mo_at w wc (es.map (S.2.2.1 (27, 0)))) := by
  obtain ⟨⟨b1, b2, b3⟩, ⟨k1, k2, k3⟩, ⟨p1, p2, p3⟩, ⟨n1, n2, n3⟩, -, -, hn⟩ := hV
  have loop : ∀ (es : List Int) (p wc : Int) (w : Int → Int), mo_lnk (S.2.2.1 (28, 0)) p es → (∀ e ∈ es, e < 500) → 0 ≤ wc → wc + es.length ≤ 500 → ty_W L xs d 88 10 [some (.inr (.inr (some (38, 0)))), some (.inl (ty_J v)), some (.inl (ty_J p))] [] (ty_sI (ty_mA S (42, 0) w) (38, 0) 7 wc)
      (ty_oV fun S' => ∃ w', S' = ty_sI (ty_mA S (42, 0) w') (38, 0) 7 (wc + es.length) ∧ (∀ i, i < wc → w' i = w i) ∧ mo_at w' wc (es.map (S.2.2.1 (27, 0)))) := by
    intro es
    induction es with
    | nil =>
      intro p wc w h _ h0 h1
      have h : p = -1 := h
      subst h
      refine ty_iload_n (pc := 10) (i := 2) (ks := []) (by decide +kernel) rfl ?_
      refine ty_iconst (pc := 11) (n := (-1)) (ks := []) (by decide +kernel) ?_
      -- at 12: .if_icmp .eq 54
      refine ty_icmp_eq (pc := 12) (off := 54) (t := 66) (ks := []) (by decide +kernel) (by omega) (by omega) (fun hc => ?_) (fun hc => ?_)
      · refine ty_ret_v (pc := 66) (ks := []) (by decide +kernel) rfl ?_
        refine ⟨rfl, w, ?_, fun i hi => rfl, trivial⟩
        simp
      · omega
    | cons e es ih =>
      intro p wc w h hlt h0 h1
      obtain ⟨rfl, h3, h4⟩ := h
      have h5 := hlt p List.mem_cons_self
      simp only [List.length_cons] at h1
      refine ty_iload_n (pc := 10) (i := 2) (ks := []) (by decide +kernel) rfl ?_
      refine ty_iconst (pc := 11) (n := (-1)) (ks := []) (by decide +kernel) ?_
      -- at 12: .if_icmp .eq 54
      refine ty_icmp_eq (pc := 12) (off := 54) (t := 66) (ks := []) (by decide +kernel) (by omega) (by omega) (fun hc => ?_) (fun hc => ?_)
      · omega
      · refine ty_aload_n (pc := 15) (i := 0) (ks := []) (by decide +kernel) rfl ?_
        refine ty_getI (pc := 16) (idx := 25) (ci := 8) (f := 7) (by decide +kernel) (by first | rfl | assumption) rfl (by first | exact hS.1 _ _ rfl | assumption) (fun v hv => ?_)
        first | simp (decide := true) only [ty_sI, ty_sR, ty_sA, ty_sQ, ty_mA, ty_mQ, ↓reduceIte, false_and, and_false, true_and, and_true, and_self, hne] at hv | simp (decide := true) only [ty_sI, ty_sR, ty_sA, ty_sQ, ty_mA, ty_mQ, ↓reduceIte, false_and, and_false, true_and, and_true, and_self] at hv | skip
        subst hv
        refine ty_sipush (pc := 19) (n := 500) (ks := []) (by decide +kernel) (by omega) ?_
        -- at 22: .if_icmp .ge 44
        refine ty_icmp_ge (pc := 22) (off := 44) (t := 66) (ks := []) (by decide +kernel) (by omega) (by omega) (fun hc => ?_) (fun hc => ?_)
        · omega
        · refine ty_aload_n (pc := 25) (i := 0) (ks := []) (by decide +kernel) rfl ?_
          refine ty_getS (b := (42, 0)) (pc := 26) (idx := 22) (ci := 8) (f := 6) (by decide +kernel) (by first | rfl | assumption) rfl (by first | exact hS.1 _ _ rfl | assumption) (by first | exact hS.2.2 _ _ _ _ rfl | assumption) ?_
          refine ty_aload_n (pc := 29) (i := 0) (ks := []) (by decide +kernel) rfl ?_
          refine ty_getI (pc := 30) (idx := 25) (ci := 8) (f := 7) (by decide +kernel) (by first | rfl | assumption) rfl (by first | exact hS.1 _ _ rfl | assumption) (fun v hv => ?_)
          first | simp (decide := true) only [ty_sI, ty_sR, ty_sA, ty_sQ, ty_mA, ty_mQ, ↓reduceIte, false_and, and_false, true_and, and_true, and_self, hne] at hv | simp (decide := true) only [ty_sI, ty_sR, ty_sA, ty_sQ, ty_mA, ty_mQ, ↓reduceIte, false_and, and_false, true_and, and_true, and_self] at hv | skip
          subst hv
          refine ty_aload_n (pc := 33) (i := 0) (ks := []) (by decide +kernel) rfl ?_
          refine ty_getS (b := (13, 0)) (pc := 34) (idx := 32) (ci := 8) (f := 1) (by decide +kernel) (by first | rfl | assumption) rfl (by first | exact hS.1 _ _ rfl | assumption) (by first | exact hS.2.2 _ _ _ _ rfl | assumption) ?_
          refine ty_getS (b := (27, 0)) (pc := 37) (idx := 100) (ci := 2) (f := 8) (by decide +kernel) (by first | rfl | assumption) rfl (by first | exact hS.1 _ _ rfl | assumption) (by first | exact hS.2.2 _ _ _ _ rfl | assumption) ?_
          refine ty_iload_n (pc := 40) (i := 2) (ks := []) (by decide +kernel) rfl ?_
          refine ty_iaload (pc := 41) (ks := []) (by decide +kernel) (by first | rfl | assumption) (by rfl) (by first | exact hS.1 _ _ rfl | assumption) (by first | exact hS.2.1 _ _ _ rfl | assumption) (by omega) (fun v hv => ?_)
          first | simp (decide := true) only [ty_sI, ty_sR, ty_sA, ty_sQ, ty_mA, ty_mQ, ↓reduceIte, false_and, and_false, true_and, and_true, and_self, hne] at hv | simp (decide := true) only [ty_sI, ty_sR, ty_sA, ty_sQ, ty_mA, ty_mQ, ↓reduceIte, false_and, and_false, true_and, and_true, and_self] at hv | skip
          subst hv
          refine ty_iastore (pc := 42) (ks := []) (by decide +kernel) (by first | rfl | assumption) (by rfl) (by first | exact hS.1 _ _ rfl | assumption) (by first | exact hS.2.1 _ _ _ rfl | assumption) (by omega) ?_
          refine ty_aload_n (pc := 43) (i := 0) (ks := []) (by decide +kernel) rfl ?_
          refine ty_dup (pc := 44) (ks := []) (by decide +kernel) rfl ?_
          refine ty_getI (pc := 45) (idx := 25) (ci := 8) (f := 7) (by decide +kernel) (by first | rfl | assumption) rfl (by first | exact hS.1 _ _ rfl | assumption) (fun v hv => ?_)
          first | simp (decide := true) only [ty_sI, ty_sR, ty_sA, ty_sQ, ty_mA, ty_mQ, ↓reduceIte, false_and, and_false, true_and, and_true, and_self, hne] at hv | simp (decide := true) only [ty_sI, ty_sR, ty_sA, ty_sQ, ty_mA, ty_mQ, ↓reduceIte, false_and, and_false, true_and, and_true, and_self] at hv | skip
          subst hv
          refine ty_iconst (pc := 48) (n := 1) (ks := []) (by decide +kernel) ?_
          refine ty_iadd (pc := 49) (ks := []) (by decide +kernel) ?_
          refine ty_putI (pc := 50) (idx := 25) (ci := 8) (f := 7) (by decide +kernel) (by first | rfl | assumption) rfl rfl (by first | exact hS.1 _ _ rfl | assumption) ?_
          refine ty_aload_n (pc := 53) (i := 0) (ks := []) (by decide +kernel) rfl ?_
          refine ty_getS (b := (13, 0)) (pc := 54) (idx := 32) (ci := 8) (f := 1) (by decide +kernel) (by first | rfl | assumption) rfl (by first | exact hS.1 _ _ rfl | assumption) (by first | exact hS.2.2 _ _ _ _ rfl | assumption) ?_
          refine ty_getS (b := (28, 0)) (pc := 57) (idx := 103) (ci := 2) (f := 9) (by decide +kernel) (by first | rfl | assumption) rfl (by first | exact hS.1 _ _ rfl | assumption) (by first | exact hS.2.2 _ _ _ _ rfl | assumption) ?_
          refine ty_iload_n (pc := 60) (i := 2) (ks := []) (by decide +kernel) rfl ?_
          refine ty_iaload (pc := 61) (ks := []) (by decide +kernel) (by first | rfl | assumption) (by rfl) (by first | exact hS.1 _ _ rfl | assumption) (by first | exact hS.2.1 _ _ _ rfl | assumption) (by omega) (fun v hv => ?_)
          first | simp (decide := true) only [ty_sI, ty_sR, ty_sA, ty_sQ, ty_mA, ty_mQ, ↓reduceIte, false_and, and_false, true_and, and_true, and_self, hne] at hv | simp (decide := true) only [ty_sI, ty_sR, ty_sA, ty_sQ, ty_mA, ty_mQ, ↓reduceIte, false_and, and_false, true_and, and_true, and_self] at hv | skip
          subst hv
          refine ty_istore_n (pc := 62) (i := 2) (ks := []) (ls' := [_, _, _]) (by decide +kernel) rfl ?_
          refine ty_goto (pc := 63) (off := (-53)) (t := 10) (ks := []) (by decide +kernel) ?_
          -- at 10: .iload_n 2
          have e1 : ty_sI (ty_sA (ty_sI (ty_mA S (42, 0) w) (38, 0) 7 wc) (42, 0) wc (S.2.2.1 (27, 0) p)) (38, 0) 7 (wc + 1) = ty_sI (ty_mA S (42, 0) (mo_up w wc (S.2.2.1 (27, 0) p))) (38, 0) 7 (wc + 1) := by
            have e2 : ty_sA (ty_sI (ty_mA S (42, 0) w) (38, 0) 7 wc) (42, 0) wc (S.2.2.1 (27, 0) p) = ty_sI (ty_sA (ty_mA S (42, 0) w) (42, 0) wc (S.2.2.1 (27, 0) p)) (38, 0) 7 wc := rfl
            rw [e2, ty_sA_mA, ty_sI_sI]
            rfl
          rw [e1]
          refine (ih _ (wc + 1) (mo_up w wc (S.2.2.1 (27, 0) p)) h4 (fun x hx => hlt x (List.mem_cons_of_mem _ hx)) (by omega) (by omega)).mono ?_
          rintro o S' ⟨rfl, w', rfl, q1, q2⟩
          refine ⟨rfl, w', ?_, fun i hi => ?_, ?_, q2⟩
          · simp only [List.length_cons]
            rw [show wc + 1 + (es.length : Int) = wc + ((es.length + 1 : Nat) : Int) by omega]
          · rw [q1 i (by omega)]
            simp only [mo_up]
            rw [if_neg (by omega)]
          · rw [q1 wc (by omega)]
            simp [mo_up]
  refine ty_enter (ml := 3) (ls := [_, _, _]) rfl rfl (Nat.le_of_ble_eq_true rfl) ?_
  refine ty_aload_n (pc := 0) (i := 0) (ks := []) (by decide +kernel) rfl ?_
  refine ty_getS (b := (13, 0)) (pc := 1) (idx := 32) (ci := 8) (f := 1) (by decide +kernel) (by first | rfl | assumption) rfl (by first | exact hS.1 _ _ rfl | assumption) (by first | exact hS.2.2 _ _ _ _ rfl | assumption) ?_
  first | refine ty_getS (pc := 4) (idx := 86) (ci := 2) (f := 2) (by decide +kernel) (by first | rfl | assumption) rfl (by first | exact hS.1 _ _ rfl | assumption) (by assumption) ?_ | (refine ty_getR (pc := 4) (idx := 86) (ci := 2) (f := 2) (by decide +kernel) (by first | rfl | assumption) rfl (by first | exact hS.1 _ _ rfl | assumption) (fun v hv => ?_); (subst hv))
  refine ty_iload_n (pc := 7) (i := 1) (ks := []) (by decide +kernel) rfl ?_
  refine ty_iaload (pc := 8) (ks := []) (by decide +kernel) (by first | rfl | assumption) (by rfl) (by first | exact hS.1 _ _ rfl | assumption) (by first | exact hS.2.1 _ _ _ rfl | assumption) (by omega) (fun v hv => ?_)
  subst hv
  refine ty_istore_n (pc := 9) (i := 2) (ks := []) (ls' := [_, _, _]) (by decide +kernel) rfl ?_
  -- at 10: .iload_n 2
  have e0 : ty_sI (ty_mA S (42, 0) (S.2.2.1 (42, 0))) (38, 0) 7 wc = S := by
    rw [ty_mA_self]
    exact ty_sI_self hwc
  have := loop es _ wc (S.2.2.1 (42, 0)) hl he hr.1 hr.2
  rw [e0] at this
  exact this
end CPP
