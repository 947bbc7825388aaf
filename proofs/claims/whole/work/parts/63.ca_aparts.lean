/-! Pairs told to stay different. -/
def mo_uw (f : Int → Bool) (v : Int) (x : Bool) : Int → Bool := fun j => if j = v then x else f j
/-- those waiting, from i on, m of them: 1 all hold, 0 one fails, 2 too many steps; the steps; who still waits -/
def mo_hold (G : mo_G) (bd : Int → Int) (ch : Int → List Int) (wk : List Int) (al ar : Int → Int) : Nat → Int → Int → (Int → Bool) → Int × Int × (Int → Bool)
  | 0, st, _, aw => (1, st, aw)
  | m + 1, st, i, aw => if aw i = true then
      (if (mo_ur G true st ([(al i, ar i)], bd, ch, wk, false)).1 = 2 then (2, (mo_ur G true st ([(al i, ar i)], bd, ch, wk, false)).2.1, aw)
       else if (mo_ur G true st ([(al i, ar i)], bd, ch, wk, false)).1 = 1 then (if (mo_ur G true st ([(al i, ar i)], bd, ch, wk, false)).2.2.2.2.2 = true then mo_hold G bd ch wk al ar m (mo_ur G true st ([(al i, ar i)], bd, ch, wk, false)).2.1 (i + 1) aw else (0, (mo_ur G true st ([(al i, ar i)], bd, ch, wk, false)).2.1, aw))
       else mo_hold G bd ch wk al ar m (mo_ur G true st ([(al i, ar i)], bd, ch, wk, false)).2.1 (i + 1) (mo_uw aw i false))
    else mo_hold G bd ch wk al ar m st (i + 1) aw
/-- the settled ones wait again -/
def ca_sw (f on : Int → Int) (kept : Int) : Nat → Int → Int
  | 0 => f
  | m + 1 => fun j => if j = on (kept + m) then 1 else ca_sw f on kept m j
theorem ca_sw_eq {f on on' : Int → Int} {kept : Int} : ∀ (m : Nat), (∀ i, kept ≤ i → i < kept + m → on' i = on i) → ca_sw f on' kept m = ca_sw f on kept m
  | 0, _ => rfl
  | m + 1, h => by
    funext j
    show (if j = on' (kept + m) then 1 else ca_sw f on' kept m j) = if j = on (kept + m) then 1 else ca_sw f on kept m j
    rw [h (kept + m) (by omega) (by omega), ca_sw_eq m (fun i a b => h i a (by omega))]
theorem ca_sw_at {f f' on : Int → Int} {kept : Int} {j : Int} (h : f' j = f j) : ∀ (m : Nat), ca_sw f' on kept m j = ca_sw f on kept m j
  | 0 => h
  | m + 1 => by
    show (if j = on (kept + m) then 1 else ca_sw f' on kept m j) = if j = on (kept + m) then 1 else ca_sw f on kept m j
    rw [ca_sw_at h m]
theorem ca_sw_1 {f on : Int → Int} {kept : Int} {j : Int} (h : f j = 1) : ∀ (m : Nat), ca_sw f on kept m j = 1
  | 0 => h
  | m + 1 => by
    show (if j = on (kept + m) then 1 else ca_sw f on kept m j) = 1
    rw [ca_sw_1 h m]
    simp
theorem ca_sw_settle {f on : Int → Int} {kept sc v : Int} (hk : kept ≤ sc) (hv : f v = 1) : ca_sw (mo_up f v 0) (mo_up on sc v) kept (sc + 1 - kept).toNat = ca_sw f on kept (sc - kept).toNat := by
  have e : (sc + 1 - kept).toNat = (sc - kept).toNat + 1 := by omega
  rw [e]
  funext j
  show (if j = mo_up on sc v (kept + ((sc - kept).toNat : Nat)) then 1 else ca_sw (mo_up f v 0) (mo_up on sc v) kept (sc - kept).toNat j) = _
  have e1 : mo_up on sc v (kept + ((sc - kept).toNat : Nat)) = v := by
    simp only [mo_up]
    rw [if_pos (by omega)]
  rw [e1, ca_sw_eq (on := on) _ (fun i a b => by
    simp only [mo_up]
    rw [if_neg (by omega)])]
  by_cases ej : j = v
  · rw [if_pos ej, ej, ca_sw_1 hv]
  · rw [if_neg ej]
    exact ca_sw_at (by simp [mo_up, ej]) _
section CAA
variable {L : Nat} {xs : Nat → Int32} {S : ty_S}
theorem ca_clear (d : Nat) (hS : ty_st S) : ty_C L xs (d + 1) 40 [.inr (.inr (some (39, 0)))] S (ty_oV fun S' => S' = ty_sI (ty_sI S (39, 0) 5 0) (39, 0) 7 0) := by
  refine ty_enter (ml := 1) (ls := [_]) rfl rfl (Nat.le_of_ble_eq_true rfl) ?_
  refine ty_aload_n (pc := 0) (i := 0) (ks := []) (by decide +kernel) rfl ?_
  refine ty_iconst (pc := 1) (n := 0) (ks := []) (by decide +kernel) ?_
  refine ty_putI (pc := 2) (idx := 22) (ci := 9) (f := 5) (by decide +kernel) (by first | rfl | assumption) rfl rfl (by first | exact hS.1 _ _ rfl | assumption) ?_
  refine ty_aload_n (pc := 5) (i := 0) (ks := []) (by decide +kernel) rfl ?_
  refine ty_iconst (pc := 6) (n := 0) (ks := []) (by decide +kernel) ?_
  refine ty_putI (pc := 7) (idx := 29) (ci := 9) (f := 7) (by decide +kernel) (by first | rfl | assumption) rfl rfl (by first | exact hS.1 _ _ rfl | assumption) ?_
  refine ty_ret_v (pc := 10) (ks := []) (by decide +kernel) rfl ?_
  exact ⟨rfl, rfl⟩
theorem ca_putNewest (d : Nat) (hS : ty_st S) {x y an : Int} (ha : S.1 (39, 0) 5 = an) (hr : 0 ≤ an ∧ an < 500) : ty_C L xs (d + 1) 74 [.inr (.inr (some (39, 0))), .inl (ty_J x), .inl (ty_J y)] S (ty_oV fun S' => S' = ty_sI (ty_sA (ty_sA (ty_sA S (43, 0) an x) (44, 0) an y) (45, 0) an 1) (39, 0) 5 (an + 1)) := by
  subst ha
  refine ty_enter (ml := 3) (ls := [_, _, _]) rfl rfl (Nat.le_of_ble_eq_true rfl) ?_
  refine ty_aload_n (pc := 0) (i := 0) (ks := []) (by decide +kernel) rfl ?_
  refine ty_getI (pc := 1) (idx := 22) (ci := 9) (f := 5) (by decide +kernel) (by first | rfl | assumption) rfl (by first | exact hS.1 _ _ rfl | assumption) (fun v hv => ?_)
  subst hv
  refine ty_sipush (pc := 4) (n := 500) (ks := []) (by decide +kernel) (by omega) ?_
  -- at 7: .if_icmp .ge 43
  refine ty_icmp_ge (pc := 7) (off := 43) (t := 50) (ks := []) (by decide +kernel) (by omega) (by omega) (fun hc => ?_) (fun hc => ?_)
  · omega
  · refine ty_aload_n (pc := 10) (i := 0) (ks := []) (by decide +kernel) rfl ?_
    refine ty_getS (b := (43, 0)) (pc := 11) (idx := 9) (ci := 9) (f := 2) (by decide +kernel) (by first | rfl | assumption) rfl (by first | exact hS.1 _ _ rfl | assumption) (by first | exact hS.2.2 _ _ _ _ rfl | assumption) ?_
    refine ty_aload_n (pc := 14) (i := 0) (ks := []) (by decide +kernel) rfl ?_
    refine ty_getI (pc := 15) (idx := 22) (ci := 9) (f := 5) (by decide +kernel) (by first | rfl | assumption) rfl (by first | exact hS.1 _ _ rfl | assumption) (fun v hv => ?_)
    subst hv
    refine ty_iload_n (pc := 18) (i := 1) (ks := []) (by decide +kernel) rfl ?_
    refine ty_iastore (pc := 19) (ks := []) (by decide +kernel) (by first | rfl | assumption) (by rfl) (by first | exact hS.1 _ _ rfl | assumption) (by first | exact hS.2.1 _ _ _ rfl | assumption) (by omega) ?_
    refine ty_aload_n (pc := 20) (i := 0) (ks := []) (by decide +kernel) rfl ?_
    refine ty_getS (b := (44, 0)) (pc := 21) (idx := 15) (ci := 9) (f := 3) (by decide +kernel) (by first | rfl | assumption) rfl (by first | exact hS.1 _ _ rfl | assumption) (by first | exact hS.2.2 _ _ _ _ rfl | assumption) ?_
    refine ty_aload_n (pc := 24) (i := 0) (ks := []) (by decide +kernel) rfl ?_
    refine ty_getI (pc := 25) (idx := 22) (ci := 9) (f := 5) (by decide +kernel) (by first | rfl | assumption) rfl (by first | exact hS.1 _ _ rfl | assumption) (fun v hv => ?_)
    first | simp (decide := true) only [ty_sI, ty_sR, ty_sA, ty_sQ, ty_mA, ty_mQ, ↓reduceIte, false_and, and_false, true_and, and_true, and_self, hne] at hv | simp (decide := true) only [ty_sI, ty_sR, ty_sA, ty_sQ, ty_mA, ty_mQ, ↓reduceIte, false_and, and_false, true_and, and_true, and_self] at hv | skip
    subst hv
    refine ty_iload_n (pc := 28) (i := 2) (ks := []) (by decide +kernel) rfl ?_
    refine ty_iastore (pc := 29) (ks := []) (by decide +kernel) (by first | rfl | assumption) (by rfl) (by first | exact hS.1 _ _ rfl | assumption) (by first | exact hS.2.1 _ _ _ rfl | assumption) (by omega) ?_
    refine ty_aload_n (pc := 30) (i := 0) (ks := []) (by decide +kernel) rfl ?_
    refine ty_getS (b := (45, 0)) (pc := 31) (idx := 18) (ci := 9) (f := 4) (by decide +kernel) (by first | rfl | assumption) rfl (by first | exact hS.1 _ _ rfl | assumption) (by first | exact hS.2.2 _ _ _ _ rfl | assumption) ?_
    refine ty_aload_n (pc := 34) (i := 0) (ks := []) (by decide +kernel) rfl ?_
    refine ty_getI (pc := 35) (idx := 22) (ci := 9) (f := 5) (by decide +kernel) (by first | rfl | assumption) rfl (by first | exact hS.1 _ _ rfl | assumption) (fun v hv => ?_)
    first | simp (decide := true) only [ty_sI, ty_sR, ty_sA, ty_sQ, ty_mA, ty_mQ, ↓reduceIte, false_and, and_false, true_and, and_true, and_self, hne] at hv | simp (decide := true) only [ty_sI, ty_sR, ty_sA, ty_sQ, ty_mA, ty_mQ, ↓reduceIte, false_and, and_false, true_and, and_true, and_self] at hv | skip
    subst hv
    refine ty_iconst (pc := 38) (n := 1) (ks := []) (by decide +kernel) ?_
    refine ty_bastore (pc := 39) (ks := []) (by decide +kernel) (by first | rfl | assumption) (by rfl) (by first | exact hS.1 _ _ rfl | assumption) (by first | exact hS.2.1 _ _ _ rfl | assumption) (by omega) (by omega) ?_
    refine ty_aload_n (pc := 40) (i := 0) (ks := []) (by decide +kernel) rfl ?_
    refine ty_dup (pc := 41) (ks := []) (by decide +kernel) rfl ?_
    refine ty_getI (pc := 42) (idx := 22) (ci := 9) (f := 5) (by decide +kernel) (by first | rfl | assumption) rfl (by first | exact hS.1 _ _ rfl | assumption) (fun v hv => ?_)
    first | simp (decide := true) only [ty_sI, ty_sR, ty_sA, ty_sQ, ty_mA, ty_mQ, ↓reduceIte, false_and, and_false, true_and, and_true, and_self, hne] at hv | simp (decide := true) only [ty_sI, ty_sR, ty_sA, ty_sQ, ty_mA, ty_mQ, ↓reduceIte, false_and, and_false, true_and, and_true, and_self] at hv | skip
    subst hv
    refine ty_iconst (pc := 45) (n := 1) (ks := []) (by decide +kernel) ?_
    refine ty_iadd (pc := 46) (ks := []) (by decide +kernel) ?_
    refine ty_putI (pc := 47) (idx := 22) (ci := 9) (f := 5) (by decide +kernel) (by first | rfl | assumption) rfl rfl (by first | exact hS.1 _ _ rfl | assumption) ?_
    -- at 50: .return_
    refine ty_ret_v (pc := 50) (ks := []) (by decide +kernel) rfl ?_
    exact ⟨rfl, rfl⟩
theorem ca_settle (d : Nat) (hS : ty_st S) {i sc : Int} (hi : 0 ≤ i ∧ i < 500) (ha : S.1 (39, 0) 7 = sc) (hr : 0 ≤ sc ∧ sc < 500) : ty_C L xs (d + 1) 90 [.inr (.inr (some (39, 0))), .inl (ty_J i)] S (ty_oV fun S' => S' = ty_sI (ty_sA (ty_sA S (45, 0) i 0) (46, 0) sc i) (39, 0) 7 (sc + 1)) := by
  subst ha
  refine ty_enter (ml := 2) (ls := [_, _]) rfl rfl (Nat.le_of_ble_eq_true rfl) ?_
  refine ty_aload_n (pc := 0) (i := 0) (ks := []) (by decide +kernel) rfl ?_
  refine ty_getI (pc := 1) (idx := 29) (ci := 9) (f := 7) (by decide +kernel) (by first | rfl | assumption) rfl (by first | exact hS.1 _ _ rfl | assumption) (fun v hv => ?_)
  subst hv
  refine ty_sipush (pc := 4) (n := 500) (ks := []) (by decide +kernel) (by omega) ?_
  -- at 7: .if_icmp .ge 30
  refine ty_icmp_ge (pc := 7) (off := 30) (t := 37) (ks := []) (by decide +kernel) (by omega) (by omega) (fun hc => ?_) (fun hc => ?_)
  · omega
  · refine ty_aload_n (pc := 10) (i := 0) (ks := []) (by decide +kernel) rfl ?_
    refine ty_getS (b := (45, 0)) (pc := 11) (idx := 18) (ci := 9) (f := 4) (by decide +kernel) (by first | rfl | assumption) rfl (by first | exact hS.1 _ _ rfl | assumption) (by first | exact hS.2.2 _ _ _ _ rfl | assumption) ?_
    refine ty_iload_n (pc := 14) (i := 1) (ks := []) (by decide +kernel) rfl ?_
    refine ty_iconst (pc := 15) (n := 0) (ks := []) (by decide +kernel) ?_
    refine ty_bastore (pc := 16) (ks := []) (by decide +kernel) (by first | rfl | assumption) (by rfl) (by first | exact hS.1 _ _ rfl | assumption) (by first | exact hS.2.1 _ _ _ rfl | assumption) (by omega) (by omega) ?_
    refine ty_aload_n (pc := 17) (i := 0) (ks := []) (by decide +kernel) rfl ?_
    refine ty_getS (b := (46, 0)) (pc := 18) (idx := 26) (ci := 9) (f := 6) (by decide +kernel) (by first | rfl | assumption) rfl (by first | exact hS.1 _ _ rfl | assumption) (by first | exact hS.2.2 _ _ _ _ rfl | assumption) ?_
    refine ty_aload_n (pc := 21) (i := 0) (ks := []) (by decide +kernel) rfl ?_
    refine ty_getI (pc := 22) (idx := 29) (ci := 9) (f := 7) (by decide +kernel) (by first | rfl | assumption) rfl (by first | exact hS.1 _ _ rfl | assumption) (fun v hv => ?_)
    first | simp (decide := true) only [ty_sI, ty_sR, ty_sA, ty_sQ, ty_mA, ty_mQ, ↓reduceIte, false_and, and_false, true_and, and_true, and_self, hne] at hv | simp (decide := true) only [ty_sI, ty_sR, ty_sA, ty_sQ, ty_mA, ty_mQ, ↓reduceIte, false_and, and_false, true_and, and_true, and_self] at hv | skip
    subst hv
    refine ty_iload_n (pc := 25) (i := 1) (ks := []) (by decide +kernel) rfl ?_
    refine ty_iastore (pc := 26) (ks := []) (by decide +kernel) (by first | rfl | assumption) (by rfl) (by first | exact hS.1 _ _ rfl | assumption) (by first | exact hS.2.1 _ _ _ rfl | assumption) (by omega) ?_
    refine ty_aload_n (pc := 27) (i := 0) (ks := []) (by decide +kernel) rfl ?_
    refine ty_dup (pc := 28) (ks := []) (by decide +kernel) rfl ?_
    refine ty_getI (pc := 29) (idx := 29) (ci := 9) (f := 7) (by decide +kernel) (by first | rfl | assumption) rfl (by first | exact hS.1 _ _ rfl | assumption) (fun v hv => ?_)
    first | simp (decide := true) only [ty_sI, ty_sR, ty_sA, ty_sQ, ty_mA, ty_mQ, ↓reduceIte, false_and, and_false, true_and, and_true, and_self, hne] at hv | simp (decide := true) only [ty_sI, ty_sR, ty_sA, ty_sQ, ty_mA, ty_mQ, ↓reduceIte, false_and, and_false, true_and, and_true, and_self] at hv | skip
    subst hv
    refine ty_iconst (pc := 32) (n := 1) (ks := []) (by decide +kernel) ?_
    refine ty_iadd (pc := 33) (ks := []) (by decide +kernel) ?_
    refine ty_putI (pc := 34) (idx := 29) (ci := 9) (f := 7) (by decide +kernel) (by first | rfl | assumption) rfl rfl (by first | exact hS.1 _ _ rfl | assumption) ?_
    -- at 37: .return_
    refine ty_ret_v (pc := 37) (ks := []) (by decide +kernel) rfl ?_
    exact ⟨rfl, rfl⟩
theorem ca_goBack (d : Nat) (hS : ty_st S) {km kept sc : Int} (hb : S.1 (39, 0) 7 = sc) (hr : 0 ≤ kept ∧ kept ≤ sc ∧ sc ≤ 500) (ho : ∀ i, kept ≤ i → i < sc → 0 ≤ S.2.2.1 (46, 0) i ∧ S.2.2.1 (46, 0) i < 500) :
    ty_C L xs (d + 1) 84 [.inr (.inr (some (39, 0))), .inl (ty_J km), .inl (ty_J kept)] S (ty_oV fun S' => S' = ty_sI (ty_sI (ty_mA S (45, 0) (ca_sw (S.2.2.1 (45, 0)) (S.2.2.1 (46, 0)) kept (sc - kept).toNat)) (39, 0) 7 kept) (39, 0) 5 km) := by
  have loop : ∀ (r m : Nat), (m + r : Int) = sc - kept → ty_W L xs d 84 2 [some (.inr (.inr (some (39, 0)))), some (.inl (ty_J km)), some (.inl (ty_J kept)), some (.inl (ty_J (kept + m)))] [] (ty_mA S (45, 0) (ca_sw (S.2.2.1 (45, 0)) (S.2.2.1 (46, 0)) kept m)) (ty_oV fun S' => S' = ty_sI (ty_sI (ty_mA S (45, 0) (ca_sw (S.2.2.1 (45, 0)) (S.2.2.1 (46, 0)) kept (sc - kept).toNat)) (39, 0) 7 kept) (39, 0) 5 km) := by
    intro r
    induction r with
    | zero =>
      intro m hm
      refine ty_iload_n (pc := 2) (i := 3) (ks := []) (by decide +kernel) rfl ?_
      refine ty_aload_n (pc := 3) (i := 0) (ks := []) (by decide +kernel) rfl ?_
      refine ty_getI (pc := 4) (idx := 29) (ci := 9) (f := 7) (by decide +kernel) (by first | rfl | assumption) rfl (by first | exact hS.1 _ _ rfl | assumption) (fun v hv => ?_)
      first | simp (decide := true) only [ty_sI, ty_sR, ty_sA, ty_sQ, ty_mA, ty_mQ, ↓reduceIte, false_and, and_false, true_and, and_true, and_self, hne] at hv | simp (decide := true) only [ty_sI, ty_sR, ty_sA, ty_sQ, ty_mA, ty_mQ, ↓reduceIte, false_and, and_false, true_and, and_true, and_self] at hv | skip
      subst hv
      -- at 7: .if_icmp .ge 21
      rw [hb]
      refine ty_icmp_ge (pc := 7) (off := 21) (t := 28) (ks := []) (by decide +kernel) (by omega) (by omega) (fun hc => ?_) (fun hc => ?_)
      · refine ty_aload_n (pc := 28) (i := 0) (ks := []) (by decide +kernel) rfl ?_
        refine ty_iload_n (pc := 29) (i := 2) (ks := []) (by decide +kernel) rfl ?_
        refine ty_putI (pc := 30) (idx := 29) (ci := 9) (f := 7) (by decide +kernel) (by first | rfl | assumption) rfl rfl (by first | exact hS.1 _ _ rfl | assumption) ?_
        refine ty_aload_n (pc := 33) (i := 0) (ks := []) (by decide +kernel) rfl ?_
        refine ty_iload_n (pc := 34) (i := 1) (ks := []) (by decide +kernel) rfl ?_
        refine ty_putI (pc := 35) (idx := 22) (ci := 9) (f := 5) (by decide +kernel) (by first | rfl | assumption) rfl rfl (by first | exact hS.1 _ _ rfl | assumption) ?_
        -- at 38: .return_
        refine ty_ret_v (pc := 38) (ks := []) (by decide +kernel) rfl ?_
        have e : (sc - kept).toNat = m := by omega
        rw [e]
        exact ⟨rfl, rfl⟩
      · omega
    | succ r ih =>
      intro m hm
      refine ty_iload_n (pc := 2) (i := 3) (ks := []) (by decide +kernel) rfl ?_
      refine ty_aload_n (pc := 3) (i := 0) (ks := []) (by decide +kernel) rfl ?_
      refine ty_getI (pc := 4) (idx := 29) (ci := 9) (f := 7) (by decide +kernel) (by first | rfl | assumption) rfl (by first | exact hS.1 _ _ rfl | assumption) (fun v hv => ?_)
      first | simp (decide := true) only [ty_sI, ty_sR, ty_sA, ty_sQ, ty_mA, ty_mQ, ↓reduceIte, false_and, and_false, true_and, and_true, and_self, hne] at hv | simp (decide := true) only [ty_sI, ty_sR, ty_sA, ty_sQ, ty_mA, ty_mQ, ↓reduceIte, false_and, and_false, true_and, and_true, and_self] at hv | skip
      subst hv
      -- at 7: .if_icmp .ge 21
      rw [hb]
      have h9 := ho (kept + m) (by omega) (by omega)
      refine ty_icmp_ge (pc := 7) (off := 21) (t := 28) (ks := []) (by decide +kernel) (by omega) (by omega) (fun hc => ?_) (fun hc => ?_)
      · omega
      · refine ty_aload_n (pc := 10) (i := 0) (ks := []) (by decide +kernel) rfl ?_
        refine ty_getS (b := (45, 0)) (pc := 11) (idx := 18) (ci := 9) (f := 4) (by decide +kernel) (by first | rfl | assumption) rfl (by first | exact hS.1 _ _ rfl | assumption) (by first | exact hS.2.2 _ _ _ _ rfl | assumption) ?_
        refine ty_aload_n (pc := 14) (i := 0) (ks := []) (by decide +kernel) rfl ?_
        refine ty_getS (b := (46, 0)) (pc := 15) (idx := 26) (ci := 9) (f := 6) (by decide +kernel) (by first | rfl | assumption) rfl (by first | exact hS.1 _ _ rfl | assumption) (by first | exact hS.2.2 _ _ _ _ rfl | assumption) ?_
        refine ty_iload_n (pc := 18) (i := 3) (ks := []) (by decide +kernel) rfl ?_
        refine ty_iaload (pc := 19) (ks := []) (by decide +kernel) (by first | rfl | assumption) (by rfl) (by first | exact hS.1 _ _ rfl | assumption) (by first | exact hS.2.1 _ _ _ rfl | assumption) (by omega) (fun v hv => ?_)
        first | simp (decide := true) only [ty_sI, ty_sR, ty_sA, ty_sQ, ty_mA, ty_mQ, ↓reduceIte, false_and, and_false, true_and, and_true, and_self, hne] at hv | simp (decide := true) only [ty_sI, ty_sR, ty_sA, ty_sQ, ty_mA, ty_mQ, ↓reduceIte, false_and, and_false, true_and, and_true, and_self] at hv | skip
        subst hv
        refine ty_iconst (pc := 20) (n := 1) (ks := []) (by decide +kernel) ?_
        refine ty_bastore (pc := 21) (ks := []) (by decide +kernel) (by first | rfl | assumption) (by rfl) (by first | exact hS.1 _ _ rfl | assumption) (by first | exact hS.2.1 _ _ _ rfl | assumption) (by omega) (by omega) ?_
        refine ty_iinc (pc := 22) (i := 3) (n := 1) (ks := []) (ls' := [_, _, _, _]) (by decide +kernel) rfl rfl ?_
        refine ty_goto (pc := 25) (off := (-23)) (t := 2) (ks := []) (by decide +kernel) ?_
        -- at 2: .iload_n 3
        rw [ty_sA_mA]
        have := ih (m + 1) (by omega)
        rw [show kept + ((m + 1 : Nat) : Int) = kept + m + 1 by omega] at this
        exact this
  refine ty_enter (ml := 4) (ls := [_, _, _, _]) rfl rfl (Nat.le_of_ble_eq_true rfl) ?_
  refine ty_iload_n (pc := 0) (i := 2) (ks := []) (by decide +kernel) rfl ?_
  refine ty_istore_n (pc := 1) (i := 3) (ks := []) (ls' := [_, _, _, _]) (by decide +kernel) rfl ?_
  -- at 2: .iload_n 3
  have := loop (sc - kept).toNat 0 (by omega)
  rw [show kept + ((0 : Nat) : Int) = kept by omega] at this
  rw [show ca_sw (S.2.2.1 (45, 0)) (S.2.2.1 (46, 0)) kept 0 = S.2.2.1 (45, 0) from rfl, ty_mA_self] at this
  exact this
end CAA
