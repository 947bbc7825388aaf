/-! The reference's trail: what was changed, and is put back. -/
/-- the five rows -/
def rr (A : Nat → Int → Int) : Nat → Int → Int := fun r => if r = 0 then A 63 else if r = 1 then A 64 else if r = 2 then A 65 else if r = 3 then A 74 else if r = 4 then A 77 else fun _ => 0
def rm_rows (A : Nat → Int → Int) (R : Nat → Int → Int) : Nat → Int → Int := fun q => if q = 63 then R 0 else if q = 64 then R 1 else if q = 65 then R 2 else if q = 74 then R 3 else if q = 77 then R 4 else A q
/-- m entries from to on are put back, the newest first -/
def ru (at' old : Int → Int) (to : Int) : Nat → (Nat → Int → Int) → Nat → Int → Int
  | 0, R => R
  | m + 1, R => ru at' old to m (rm_w R (at' (to + m) % 5).toNat (at' (to + m) / 5) (old (to + m)))
theorem ru_eq {at' old at2 old2 : Int → Int} {to : Int} : ∀ (m : Nat) (R : Nat → Int → Int), (∀ j, to ≤ j → j < to + m → at2 j = at' j ∧ old2 j = old j) → ru at2 old2 to m R = ru at' old to m R
  | 0, _, _ => rfl
  | m + 1, R, h => by
    show ru at2 old2 to m (rm_w R (at2 (to + m) % 5).toNat (at2 (to + m) / 5) (old2 (to + m))) = ru at' old to m (rm_w R (at' (to + m) % 5).toNat (at' (to + m) / 5) (old (to + m)))
    obtain ⟨a, b⟩ := h (to + m) (by omega) (by omega)
    rw [a, b]
    exact ru_eq m _ (fun j h1 h2 => h j h1 (by omega))
theorem ru_pt {at' old : Int → Int} {to : Int} {r : Nat} {i : Int} : ∀ (m : Nat) (R R' : Nat → Int → Int), R' r i = R r i → ru at' old to m R' r i = ru at' old to m R r i
  | 0, _, _, h => h
  | m + 1, R, R', h => by
    refine ru_pt m _ _ ?_
    unfold rm_w
    split
    · rfl
    · exact h
theorem ru_split {at' old : Int → Int} {to : Int} (k : Nat) : ∀ (m : Nat) (R : Nat → Int → Int), ru at' old to (k + m) R = ru at' old to k (ru at' old (to + k) m R)
  | 0, _ => rfl
  | m + 1, R => by
    show ru at' old to (k + m) (rm_w R (at' (to + ((k + m : Nat) : Int)) % 5).toNat (at' (to + ((k + m : Nat) : Int)) / 5) (old (to + ((k + m : Nat) : Int)))) = ru at' old to k (ru at' old (to + k) m (rm_w R (at' (to + k + m) % 5).toNat (at' (to + k + m) / 5) (old (to + k + m))))
    rw [ru_split k m, show to + ((k + m : Nat) : Int) = to + k + m by omega]
/-- entries name places that there are -/
def rt_ok (at' : Int → Int) (tl : Int) : Prop := ∀ j, 0 ≤ j → j < tl → 0 ≤ at' j ∧ at' j < 65000 ∧ (at' j % 5 = 3 → at' j / 5 < 1200) ∧ (at' j % 5 = 4 → at' j / 5 < 600)
/-- what can be put back is the same: to any place up to tl -/
def rt_ud (A : Nat → Int → Int) (tl : Int) (A' : Nat → Int → Int) (tl' : Int) : Prop := tl ≤ tl' ∧ (∀ j, j < tl → A' 71 j = A 71 j ∧ A' 72 j = A 72 j) ∧ ∀ to, 0 ≤ to → to ≤ tl → ru (A' 71) (A' 72) to (tl' - to).toNat (rr A') = ru (A 71) (A 72) to (tl - to).toNat (rr A)
theorem rt_ud.refl {A : Nat → Int → Int} {tl : Int} : rt_ud A tl A tl := ⟨Int.le_refl _, fun _ _ => ⟨rfl, rfl⟩, fun _ _ _ => rfl⟩
theorem rt_ud.trans {A A1 A2 : Nat → Int → Int} {t t1 t2 : Int} (h : rt_ud A t A1 t1) (g : rt_ud A1 t1 A2 t2) : rt_ud A t A2 t2 := by
  obtain ⟨a1, a2, a3⟩ := h
  obtain ⟨b1, b2, b3⟩ := g
  exact ⟨by omega, fun j hj => ⟨(b2 j (by omega)).1.trans (a2 j hj).1, (b2 j (by omega)).2.trans (a2 j hj).2⟩, fun to h0 h1 => (b3 to h0 (by omega)).trans (a3 to h0 h1)⟩
/-- if putting back the new entries gives what was -/
theorem rt_ud_of {A A' : Nat → Int → Int} {tl : Int} (k : Nat) (h2 : ∀ j, j < tl → A' 71 j = A 71 j ∧ A' 72 j = A 72 j) (h3 : ru (A' 71) (A' 72) tl k (rr A') = rr A) : rt_ud A tl A' (tl + k) := by
  refine ⟨by omega, h2, fun to h0 h1 => ?_⟩
  have := ru_split (at' := A' 71) (old := A' 72) (to := to) (tl - to).toNat k (rr A')
  rw [show to + (((tl - to).toNat : Nat) : Int) = tl by omega, h3] at this
  rw [show (tl + k - to).toNat = (tl - to).toNat + k by omega, this]
  exact ru_eq _ _ (fun j a b => h2 j (by omega))
theorem rr_rows {A R : Nat → Int → Int} (h : ∀ r, 5 ≤ r → R r = fun _ => 0) : rr (rm_rows A R) = R := by
  funext r
  unfold rr
  by_cases e0 : r = 0
  · rw [if_pos e0, e0]; rfl
  rw [if_neg e0]
  by_cases e1 : r = 1
  · rw [if_pos e1, e1]; rfl
  rw [if_neg e1]
  by_cases e2 : r = 2
  · rw [if_pos e2, e2]; rfl
  rw [if_neg e2]
  by_cases e3 : r = 3
  · rw [if_pos e3, e3]; rfl
  rw [if_neg e3]
  by_cases e4 : r = 4
  · rw [if_pos e4, e4]; rfl
  rw [if_neg e4, h r (by omega)]
theorem rm_rows_self {A : Nat → Int → Int} : rm_rows A (rr A) = A := by
  funext q
  unfold rm_rows
  split
  · next h => rw [h]; rfl
  split
  · next h => rw [h]; rfl
  split
  · next h => rw [h]; rfl
  split
  · next h => rw [h]; rfl
  split
  · next h => rw [h]; rfl
  rfl
theorem rm_rows_w {A R : Nat → Int → Int} {r : Nat} {i v : Int} {s : Nat} (h : r = 0 ∧ s = 63 ∨ r = 1 ∧ s = 64 ∨ r = 2 ∧ s = 65 ∨ r = 3 ∧ s = 74 ∨ r = 4 ∧ s = 77) : rm_w (rm_rows A R) s i v = rm_rows A (rm_w R r i v) := by
  funext q j
  rcases h with ⟨rfl, rfl⟩ | ⟨rfl, rfl⟩ | ⟨rfl, rfl⟩ | ⟨rfl, rfl⟩ | ⟨rfl, rfl⟩
  all_goals
    by_cases e0 : q = 63
    · subst e0; simp [rm_w, rm_rows]
    by_cases e1 : q = 64
    · subst e1; simp [rm_w, rm_rows]
    by_cases e2 : q = 65
    · subst e2; simp [rm_w, rm_rows]
    by_cases e3 : q = 74
    · subst e3; simp [rm_w, rm_rows]
    by_cases e4 : q = 77
    · subst e4; simp [rm_w, rm_rows]
    simp [rm_w, rm_rows, e0, e1, e2, e3, e4]
section RMTR
variable {L : Nat} {xs : Nat → Int32} {S : ty_S} {I : Nat → Int} {A : Nat → Int → Int}
theorem rm_change (d : Nat) (hS : ty_st S) {w old tl : Int} (ht : I 32 = tl) (hr : 0 ≤ tl ∧ tl < 6000) : ty_C L xs (d + 1) 136 [.inr (.inr (some (94, 0))), .inl (ty_J w), .inl (ty_J old)] (rm_s S I A) (ty_oV fun S' => S' = rm_s S (rm_u I 32 (tl + 1)) (rm_w (rm_w A 71 tl w) 72 tl old)) := by
  subst ht
  refine ty_enter (ml := 3) (ls := [_, _, _]) rfl rfl (Nat.le_of_ble_eq_true rfl) ?_
  refine ty_aload_n (pc := 0) (i := 0) (ks := []) (by decide +kernel) rfl ?_
  refine ty_getS (b := (71, 0)) (pc := 1) (idx := 69) (ci := 13) (f := 41) (by decide +kernel) (by first | rfl | assumption) rfl (by first | exact hS.1 _ _ rfl | assumption) (by first | exact hS.2.2 _ _ _ _ rfl | assumption) ?_
  refine ty_aload_n (pc := 4) (i := 0) (ks := []) (by decide +kernel) rfl ?_
  refine ty_getI (pc := 5) (idx := 219) (ci := 13) (f := 32) (by decide +kernel) (by first | rfl | assumption) rfl (by first | exact hS.1 _ _ rfl | assumption) (fun v hv => ?_)
  simp (decide := true) only [rm_I, rm_u, rm_w, ty_sI, ty_sR, ty_sA, ty_sQ, ty_mA, ty_mQ, ↓reduceIte, false_and, and_false, true_and, and_true, and_self] at hv
  subst hv
  refine ty_iload_n (pc := 8) (i := 1) (ks := []) (by decide +kernel) rfl ?_
  refine ty_iastore (pc := 9) (ks := []) (by decide +kernel) (by first | rfl | assumption) (by rfl) (by first | exact hS.1 _ _ rfl | assumption) (by first | exact hS.2.1 _ _ _ rfl | assumption) (by omega) ?_
  rw [rm_sA (by decide)]
  refine ty_aload_n (pc := 10) (i := 0) (ks := []) (by decide +kernel) rfl ?_
  refine ty_getS (b := (72, 0)) (pc := 11) (idx := 72) (ci := 13) (f := 42) (by decide +kernel) (by first | rfl | assumption) rfl (by first | exact hS.1 _ _ rfl | assumption) (by first | exact hS.2.2 _ _ _ _ rfl | assumption) ?_
  refine ty_aload_n (pc := 14) (i := 0) (ks := []) (by decide +kernel) rfl ?_
  refine ty_getI (pc := 15) (idx := 219) (ci := 13) (f := 32) (by decide +kernel) (by first | rfl | assumption) rfl (by first | exact hS.1 _ _ rfl | assumption) (fun v hv => ?_)
  simp (decide := true) only [rm_I, rm_u, rm_w, ty_sI, ty_sR, ty_sA, ty_sQ, ty_mA, ty_mQ, ↓reduceIte, false_and, and_false, true_and, and_true, and_self] at hv
  subst hv
  refine ty_iload_n (pc := 18) (i := 2) (ks := []) (by decide +kernel) rfl ?_
  refine ty_iastore (pc := 19) (ks := []) (by decide +kernel) (by first | rfl | assumption) (by rfl) (by first | exact hS.1 _ _ rfl | assumption) (by first | exact hS.2.1 _ _ _ rfl | assumption) (by omega) ?_
  rw [rm_sA (by decide)]
  refine ty_aload_n (pc := 20) (i := 0) (ks := []) (by decide +kernel) rfl ?_
  refine ty_dup (pc := 21) (ks := []) (by decide +kernel) rfl ?_
  refine ty_getI (pc := 22) (idx := 219) (ci := 13) (f := 32) (by decide +kernel) (by first | rfl | assumption) rfl (by first | exact hS.1 _ _ rfl | assumption) (fun v hv => ?_)
  simp (decide := true) only [rm_I, rm_u, rm_w, ty_sI, ty_sR, ty_sA, ty_sQ, ty_mA, ty_mQ, ↓reduceIte, false_and, and_false, true_and, and_true, and_self] at hv
  subst hv
  refine ty_iconst (pc := 25) (n := 1) (ks := []) (by decide +kernel) ?_
  refine ty_iadd (pc := 26) (ks := []) (by decide +kernel) ?_
  refine ty_putI (pc := 27) (idx := 219) (ci := 13) (f := 32) (by decide +kernel) (by first | rfl | assumption) rfl rfl (by first | exact hS.1 _ _ rfl | assumption) ?_
  rw [rm_sI]
  -- at 30: .return_
  refine ty_ret_v (pc := 30) (ks := []) (by decide +kernel) rfl ?_
  exact ⟨rfl, rfl⟩
theorem rm_pair (d : Nat) (hS : ty_st S) {x y n : Int} (hn : I 36 = n) (hr : 0 ≤ n ∧ n < 2200) : ty_C L xs (d + 1) 130 [.inr (.inr (some (94, 0))), .inl (ty_J x), .inl (ty_J y)] (rm_s S I A) (ty_oV fun S' => S' = rm_s S (rm_u I 36 (n + 1)) (rm_w (rm_w A 78 n x) 79 n y)) := by
  subst hn
  refine ty_enter (ml := 3) (ls := [_, _, _]) rfl rfl (Nat.le_of_ble_eq_true rfl) ?_
  refine ty_aload_n (pc := 0) (i := 0) (ks := []) (by decide +kernel) rfl ?_
  refine ty_getS (b := (78, 0)) (pc := 1) (idx := 90) (ci := 13) (f := 48) (by decide +kernel) (by first | rfl | assumption) rfl (by first | exact hS.1 _ _ rfl | assumption) (by first | exact hS.2.2 _ _ _ _ rfl | assumption) ?_
  refine ty_aload_n (pc := 4) (i := 0) (ks := []) (by decide +kernel) rfl ?_
  refine ty_getI (pc := 5) (idx := 231) (ci := 13) (f := 36) (by decide +kernel) (by first | rfl | assumption) rfl (by first | exact hS.1 _ _ rfl | assumption) (fun v hv => ?_)
  simp (decide := true) only [rm_I, rm_u, rm_w, ty_sI, ty_sR, ty_sA, ty_sQ, ty_mA, ty_mQ, ↓reduceIte, false_and, and_false, true_and, and_true, and_self] at hv
  subst hv
  refine ty_iload_n (pc := 8) (i := 1) (ks := []) (by decide +kernel) rfl ?_
  refine ty_iastore (pc := 9) (ks := []) (by decide +kernel) (by first | rfl | assumption) (by rfl) (by first | exact hS.1 _ _ rfl | assumption) (by first | exact hS.2.1 _ _ _ rfl | assumption) (by omega) ?_
  rw [rm_sA (by decide)]
  refine ty_aload_n (pc := 10) (i := 0) (ks := []) (by decide +kernel) rfl ?_
  refine ty_getS (b := (79, 0)) (pc := 11) (idx := 93) (ci := 13) (f := 49) (by decide +kernel) (by first | rfl | assumption) rfl (by first | exact hS.1 _ _ rfl | assumption) (by first | exact hS.2.2 _ _ _ _ rfl | assumption) ?_
  refine ty_aload_n (pc := 14) (i := 0) (ks := []) (by decide +kernel) rfl ?_
  refine ty_getI (pc := 15) (idx := 231) (ci := 13) (f := 36) (by decide +kernel) (by first | rfl | assumption) rfl (by first | exact hS.1 _ _ rfl | assumption) (fun v hv => ?_)
  simp (decide := true) only [rm_I, rm_u, rm_w, ty_sI, ty_sR, ty_sA, ty_sQ, ty_mA, ty_mQ, ↓reduceIte, false_and, and_false, true_and, and_true, and_self] at hv
  subst hv
  refine ty_iload_n (pc := 18) (i := 2) (ks := []) (by decide +kernel) rfl ?_
  refine ty_iastore (pc := 19) (ks := []) (by decide +kernel) (by first | rfl | assumption) (by rfl) (by first | exact hS.1 _ _ rfl | assumption) (by first | exact hS.2.1 _ _ _ rfl | assumption) (by omega) ?_
  rw [rm_sA (by decide)]
  refine ty_aload_n (pc := 20) (i := 0) (ks := []) (by decide +kernel) rfl ?_
  refine ty_dup (pc := 21) (ks := []) (by decide +kernel) rfl ?_
  refine ty_getI (pc := 22) (idx := 231) (ci := 13) (f := 36) (by decide +kernel) (by first | rfl | assumption) rfl (by first | exact hS.1 _ _ rfl | assumption) (fun v hv => ?_)
  simp (decide := true) only [rm_I, rm_u, rm_w, ty_sI, ty_sR, ty_sA, ty_sQ, ty_mA, ty_mQ, ↓reduceIte, false_and, and_false, true_and, and_true, and_self] at hv
  subst hv
  refine ty_iconst (pc := 25) (n := 1) (ks := []) (by decide +kernel) ?_
  refine ty_iadd (pc := 26) (ks := []) (by decide +kernel) ?_
  refine ty_putI (pc := 27) (idx := 231) (ci := 13) (f := 36) (by decide +kernel) (by first | rfl | assumption) rfl rfl (by first | exact hS.1 _ _ rfl | assumption) ?_
  rw [rm_sI]
  -- at 30: .return_
  refine ty_ret_v (pc := 30) (ks := []) (by decide +kernel) rfl ?_
  exact ⟨rfl, rfl⟩
theorem rm_step (d : Nat) (hS : ty_st S) {st : Int} (hs : I 30 = st) (hr : 0 ≤ st ∧ st ≤ 500) (h0 : I 11 = 0) : ty_C L xs (d + 1) 133 [.inr (.inr (some (94, 0)))] (rm_s S I A) (ty_oI fun z S' => (st = 500 ∧ z = 0 ∧ S' = rm_s S (rm_u I 11 3) A) ∨ (st < 500 ∧ z = 1 ∧ S' = rm_s S (rm_u I 30 (st + 1)) A)) := by
  subst hs
  refine ty_enter (ml := 1) (ls := [_]) rfl rfl (Nat.le_of_ble_eq_true rfl) ?_
  refine ty_aload_n (pc := 0) (i := 0) (ks := []) (by decide +kernel) rfl ?_
  refine ty_getI (pc := 1) (idx := 222) (ci := 13) (f := 30) (by decide +kernel) (by first | rfl | assumption) rfl (by first | exact hS.1 _ _ rfl | assumption) (fun v hv => ?_)
  simp (decide := true) only [rm_I, rm_u, rm_w, ty_sI, ty_sR, ty_sA, ty_sQ, ty_mA, ty_mQ, ↓reduceIte, false_and, and_false, true_and, and_true, and_self] at hv
  subst hv
  refine ty_sipush (pc := 4) (n := 500) (ks := []) (by decide +kernel) (by omega) ?_
  -- at 7: .if_icmp .ne 11
  refine ty_icmp_ne (pc := 7) (off := 11) (t := 18) (ks := []) (by decide +kernel) (by omega) (by omega) (fun hc => ?_) (fun hc => ?_)
  · refine ty_aload_n (pc := 18) (i := 0) (ks := []) (by decide +kernel) rfl ?_
    refine ty_dup (pc := 19) (ks := []) (by decide +kernel) rfl ?_
    refine ty_getI (pc := 20) (idx := 222) (ci := 13) (f := 30) (by decide +kernel) (by first | rfl | assumption) rfl (by first | exact hS.1 _ _ rfl | assumption) (fun v hv => ?_)
    simp (decide := true) only [rm_I, rm_u, rm_w, ty_sI, ty_sR, ty_sA, ty_sQ, ty_mA, ty_mQ, ↓reduceIte, false_and, and_false, true_and, and_true, and_self] at hv
    subst hv
    refine ty_iconst (pc := 23) (n := 1) (ks := []) (by decide +kernel) ?_
    refine ty_iadd (pc := 24) (ks := []) (by decide +kernel) ?_
    refine ty_putI (pc := 25) (idx := 222) (ci := 13) (f := 30) (by decide +kernel) (by first | rfl | assumption) rfl rfl (by first | exact hS.1 _ _ rfl | assumption) ?_
    rw [rm_sI]
    refine ty_aload_n (pc := 28) (i := 0) (ks := []) (by decide +kernel) rfl ?_
    refine ty_getI (pc := 29) (idx := 135) (ci := 13) (f := 11) (by decide +kernel) (by first | rfl | assumption) rfl (by first | exact hS.1 _ _ rfl | assumption) (fun v hv => ?_)
    simp (decide := true) only [rm_I, rm_u, rm_w, ty_sI, ty_sR, ty_sA, ty_sQ, ty_mA, ty_mQ, ↓reduceIte, false_and, and_false, true_and, and_true, and_self] at hv
    subst hv
    -- at 32: .ifCond .ne 7
    rw [h0]
    refine ty_if_ne (pc := 32) (off := 7) (t := 39) (ks := []) (by decide +kernel) (by omega) (fun hc => ?_) (fun hc => ?_)
    · omega
    · refine ty_iconst (pc := 35) (n := 1) (ks := []) (by decide +kernel) ?_
      refine ty_goto (pc := 36) (off := 4) (t := 40) (ks := []) (by decide +kernel) ?_
      -- at 40: .ireturn
      refine ty_ret_i (pc := 40) (ks := []) (ty := .boolean) (by decide +kernel) rfl (ty_fit_z (by omega)) ?_
      exact ⟨_, rfl, .inr ⟨by omega, rfl, rfl⟩⟩
  · have h5 := hc
    clear hc
    refine ty_aload_n (pc := 10) (i := 0) (ks := []) (by decide +kernel) rfl ?_
    refine ty_iconst (pc := 11) (n := 3) (ks := []) (by decide +kernel) ?_
    refine ty_putI (pc := 12) (idx := 135) (ci := 13) (f := 11) (by decide +kernel) (by first | rfl | assumption) rfl rfl (by first | exact hS.1 _ _ rfl | assumption) ?_
    rw [rm_sI]
    refine ty_goto (pc := 15) (off := 13) (t := 28) (ks := []) (by decide +kernel) ?_
    refine ty_aload_n (pc := 28) (i := 0) (ks := []) (by decide +kernel) rfl ?_
    refine ty_getI (pc := 29) (idx := 135) (ci := 13) (f := 11) (by decide +kernel) (by first | rfl | assumption) rfl (by first | exact hS.1 _ _ rfl | assumption) (fun v hv => ?_)
    simp (decide := true) only [rm_I, rm_u, rm_w, ty_sI, ty_sR, ty_sA, ty_sQ, ty_mA, ty_mQ, ↓reduceIte, false_and, and_false, true_and, and_true, and_self] at hv
    subst hv
    -- at 32: .ifCond .ne 7
    refine ty_if_ne (pc := 32) (off := 7) (t := 39) (ks := []) (by decide +kernel) (by omega) (fun hc => ?_) (fun hc => ?_)
    · refine ty_iconst (pc := 39) (n := 0) (ks := []) (by decide +kernel) ?_
      -- at 40: .ireturn
      refine ty_ret_i (pc := 40) (ks := []) (ty := .boolean) (by decide +kernel) rfl (ty_fit_z (by omega)) ?_
      exact ⟨_, rfl, .inl ⟨h5, rfl, rfl⟩⟩
    · omega
theorem rm_undo (d : Nat) (hS : ty_st S) {to : Int} (h0 : 0 ≤ to) : ∀ (m : Nat) (I : Nat → Int) (R : Nat → Int → Int) (x2 x3 x4 : Option Int32), I 32 = to + m → to + m ≤ 6000 → rt_ok (A 71) (to + m) →
    ty_W L xs d 128 0 [some (.inr (.inr (some (94, 0)))), some (.inl (ty_J to)), x2.map .inl, x3.map .inl, x4.map .inl] [] (rm_s S I (rm_rows A R)) (ty_oV fun S' => S' = rm_s S (rm_u I 32 to) (rm_rows A (ru (A 71) (A 72) to m R))) := by
  intro m
  induction m with
  | zero =>
    intro I R x2 x3 x4 ht hr hok
    have ht : I 32 = to := by rw [ht]; omega
    refine ty_aload_n (pc := 0) (i := 0) (ks := []) (by decide +kernel) rfl ?_
    refine ty_getI (pc := 1) (idx := 219) (ci := 13) (f := 32) (by decide +kernel) (by first | rfl | assumption) rfl (by first | exact hS.1 _ _ rfl | assumption) (fun v hv => ?_)
    simp (decide := true) only [rm_I, rm_u, rm_w, ty_sI, ty_sR, ty_sA, ty_sQ, ty_mA, ty_mQ, ↓reduceIte, false_and, and_false, true_and, and_true, and_self] at hv
    subst hv
    refine ty_iload_n (pc := 4) (i := 1) (ks := []) (by decide +kernel) rfl ?_
    -- at 5: .if_icmp .le 115
    refine ty_icmp_le (pc := 5) (off := 115) (t := 120) (ks := []) (by decide +kernel) (by omega) (by omega) (fun hc => ?_) (fun hc => ?_)
    · refine ty_ret_v (pc := 120) (ks := []) (by decide +kernel) rfl ?_
      refine ⟨rfl, ?_⟩
      rw [← ht, rm_u_self]
      rfl
    · omega
  | succ m ih =>
    intro I R x2 x3 x4 ht hr hok
    have ht' : I 32 - 1 = to + m := by rw [ht]; omega
    obtain ⟨k1, k2, k3, k4⟩ := hok (to + m) (by omega) (by omega)
    have nxt := fun (I' : Nat → Int) (hI : I' = rm_u I 32 (to + m)) (R' : Nat → Int → Int) x2 x3 x4 => ih I' R' x2 x3 x4 (by rw [hI]; exact if_pos rfl) (by omega) (fun j j0 j1 => hok j j0 (by omega))
    have hfin : ∀ (x2 x3 x4 : Option Int32), ty_W L xs d 128 0 [some (.inr (.inr (some (94, 0)))), some (.inl (ty_J to)), x2.map .inl, x3.map .inl, x4.map .inl] [] (rm_s S (rm_u I 32 (to + m)) (rm_rows A (rm_w R (A 71 (to + m) % 5).toNat (A 71 (to + m) / 5) (A 72 (to + m))))) (ty_oV fun S' => S' = rm_s S (rm_u I 32 to) (rm_rows A (ru (A 71) (A 72) to (m + 1) R))) := by
      intro x2 x3 x4
      have := nxt _ rfl (rm_w R (A 71 (to + m) % 5).toNat (A 71 (to + m) / 5) (A 72 (to + m))) x2 x3 x4
      rw [rm_u_u] at this
      exact this
    have rAt : ∀ j, rm_rows A R 71 j = A 71 j := fun j => rfl
    have rOl : ∀ j, rm_rows A R 72 j = A 72 j := fun j => rfl
    have hs := hfin (some (ty_J (A 71 (to + m) / 5))) (some (ty_J (A 71 (to + m) % 5))) (some (ty_J (A 72 (to + m))))
    clear hfin nxt ih
    refine ty_aload_n (pc := 0) (i := 0) (ks := []) (by decide +kernel) rfl ?_
    refine ty_getI (pc := 1) (idx := 219) (ci := 13) (f := 32) (by decide +kernel) (by first | rfl | assumption) rfl (by first | exact hS.1 _ _ rfl | assumption) (fun v hv => ?_)
    simp (decide := true) only [rm_I, rm_u, rm_w, ty_sI, ty_sR, ty_sA, ty_sQ, ty_mA, ty_mQ, ↓reduceIte, false_and, and_false, true_and, and_true, and_self] at hv
    subst hv
    refine ty_iload_n (pc := 4) (i := 1) (ks := []) (by decide +kernel) rfl ?_
    -- at 5: .if_icmp .le 115
    refine ty_icmp_le (pc := 5) (off := 115) (t := 120) (ks := []) (by decide +kernel) (by omega) (by omega) (fun hc => ?_) (fun hc => ?_)
    · omega
    clear hc
    refine ty_aload_n (pc := 8) (i := 0) (ks := []) (by decide +kernel) rfl ?_
    refine ty_dup (pc := 9) (ks := []) (by decide +kernel) rfl ?_
    refine ty_getI (pc := 10) (idx := 219) (ci := 13) (f := 32) (by decide +kernel) (by first | rfl | assumption) rfl (by first | exact hS.1 _ _ rfl | assumption) (fun v hv => ?_)
    simp (decide := true) only [rm_I, rm_u, rm_w, ty_sI, ty_sR, ty_sA, ty_sQ, ty_mA, ty_mQ, ↓reduceIte, false_and, and_false, true_and, and_true, and_self] at hv
    subst hv
    refine ty_iconst (pc := 13) (n := 1) (ks := []) (by decide +kernel) ?_
    refine ty_isub (pc := 14) (ks := []) (by decide +kernel) ?_
    refine ty_putI (pc := 15) (idx := 219) (ci := 13) (f := 32) (by decide +kernel) (by first | rfl | assumption) rfl rfl (by first | exact hS.1 _ _ rfl | assumption) ?_
    rw [rm_sI]
    -- at 18: .aload_n 0
    rw [ht']
    refine ty_aload_n (pc := 18) (i := 0) (ks := []) (by decide +kernel) rfl ?_
    refine ty_getS (b := (71, 0)) (pc := 19) (idx := 69) (ci := 13) (f := 41) (by decide +kernel) (by first | rfl | assumption) rfl (by first | exact hS.1 _ _ rfl | assumption) (by first | exact hS.2.2 _ _ _ _ rfl | assumption) ?_
    refine ty_aload_n (pc := 22) (i := 0) (ks := []) (by decide +kernel) rfl ?_
    refine ty_getI (pc := 23) (idx := 219) (ci := 13) (f := 32) (by decide +kernel) (by first | rfl | assumption) rfl (by first | exact hS.1 _ _ rfl | assumption) (fun v hv => ?_)
    simp (decide := true) only [rm_I, rm_u, rm_w, ty_sI, ty_sR, ty_sA, ty_sQ, ty_mA, ty_mQ, ↓reduceIte, false_and, and_false, true_and, and_true, and_self] at hv
    subst hv
    refine ty_iaload (pc := 26) (ks := []) (by decide +kernel) (by first | rfl | assumption) (by rfl) (by first | exact hS.1 _ _ rfl | assumption) (by first | exact hS.2.1 _ _ _ rfl | assumption) (by omega) (fun v hv => ?_)
    rw [rm_A (by decide)] at hv
    first | (simp (decide := true) only [rm_w, ty_sI, ty_sR, ty_sA, ty_sQ, ty_mA, ty_mQ, ↓reduceIte, false_and, and_false, true_and, and_true, and_self] at hv) | skip
    subst hv
    -- at 27: .iconst 5
    rw [rAt]
    refine ty_iconst (pc := 27) (n := 5) (ks := []) (by decide +kernel) ?_
    refine ty_idiv (pc := 28) (ks := []) (by decide +kernel) (by omega) (by omega) ?_
    -- at 29: .istore_n 2
    refine ty_istore_n (pc := 29) (i := 2) (ks := []) (ls' := [some (.inr (.inr (some (94, 0)))), some (.inl (ty_J to)), some (.inl (ty_J (A 71 (to + m) / 5))), x3.map .inl, x4.map .inl]) (by decide +kernel) rfl ?_
    refine ty_aload_n (pc := 30) (i := 0) (ks := []) (by decide +kernel) rfl ?_
    refine ty_getS (b := (71, 0)) (pc := 31) (idx := 69) (ci := 13) (f := 41) (by decide +kernel) (by first | rfl | assumption) rfl (by first | exact hS.1 _ _ rfl | assumption) (by first | exact hS.2.2 _ _ _ _ rfl | assumption) ?_
    refine ty_aload_n (pc := 34) (i := 0) (ks := []) (by decide +kernel) rfl ?_
    refine ty_getI (pc := 35) (idx := 219) (ci := 13) (f := 32) (by decide +kernel) (by first | rfl | assumption) rfl (by first | exact hS.1 _ _ rfl | assumption) (fun v hv => ?_)
    simp (decide := true) only [rm_I, rm_u, rm_w, ty_sI, ty_sR, ty_sA, ty_sQ, ty_mA, ty_mQ, ↓reduceIte, false_and, and_false, true_and, and_true, and_self] at hv
    subst hv
    refine ty_iaload (pc := 38) (ks := []) (by decide +kernel) (by first | rfl | assumption) (by rfl) (by first | exact hS.1 _ _ rfl | assumption) (by first | exact hS.2.1 _ _ _ rfl | assumption) (by omega) (fun v hv => ?_)
    rw [rm_A (by decide)] at hv
    first | (simp (decide := true) only [rm_w, ty_sI, ty_sR, ty_sA, ty_sQ, ty_mA, ty_mQ, ↓reduceIte, false_and, and_false, true_and, and_true, and_self] at hv) | skip
    subst hv
    -- at 39: .iconst 5
    rw [rAt]
    refine ty_iconst (pc := 39) (n := 5) (ks := []) (by decide +kernel) ?_
    refine ty_irem (pc := 40) (ks := []) (by decide +kernel) (by omega) (by omega) ?_
    refine ty_istore_n (pc := 41) (i := 3) (ks := []) (ls' := [_, _, _, _, _]) (by decide +kernel) rfl ?_
    refine ty_aload_n (pc := 42) (i := 0) (ks := []) (by decide +kernel) rfl ?_
    refine ty_getS (b := (72, 0)) (pc := 43) (idx := 72) (ci := 13) (f := 42) (by decide +kernel) (by first | rfl | assumption) rfl (by first | exact hS.1 _ _ rfl | assumption) (by first | exact hS.2.2 _ _ _ _ rfl | assumption) ?_
    refine ty_aload_n (pc := 46) (i := 0) (ks := []) (by decide +kernel) rfl ?_
    refine ty_getI (pc := 47) (idx := 219) (ci := 13) (f := 32) (by decide +kernel) (by first | rfl | assumption) rfl (by first | exact hS.1 _ _ rfl | assumption) (fun v hv => ?_)
    simp (decide := true) only [rm_I, rm_u, rm_w, ty_sI, ty_sR, ty_sA, ty_sQ, ty_mA, ty_mQ, ↓reduceIte, false_and, and_false, true_and, and_true, and_self] at hv
    subst hv
    refine ty_iaload (pc := 50) (ks := []) (by decide +kernel) (by first | rfl | assumption) (by rfl) (by first | exact hS.1 _ _ rfl | assumption) (by first | exact hS.2.1 _ _ _ rfl | assumption) (by omega) (fun v hv => ?_)
    rw [rm_A (by decide)] at hv
    first | (simp (decide := true) only [rm_w, ty_sI, ty_sR, ty_sA, ty_sQ, ty_mA, ty_mQ, ↓reduceIte, false_and, and_false, true_and, and_true, and_self] at hv) | skip
    subst hv
    -- at 51: .istore 4
    rw [rOl]
    refine ty_istore (pc := 51) (i := 4) (ks := []) (ls' := [_, _, _, _, _]) (by decide +kernel) rfl ?_
    refine ty_iload_n (pc := 53) (i := 3) (ks := []) (by decide +kernel) rfl ?_
    -- at 54: .ifCond .ne 11
    by_cases e0 : A 71 (to + m) % 5 = 0
    · rw [e0] at hs ⊢
      rw [show ((0 : Int)).toNat = 0 from rfl, ← rm_rows_w (r := 0) (s := 63) (by simp)] at hs
      refine ty_if_ne (pc := 54) (off := 11) (t := 65) (ks := []) (by decide +kernel) (by omega) (fun hc => ?_) (fun hc => ?_)
      · exact absurd rfl hc
      refine ty_aload_n (pc := 57) (i := 0) (ks := []) (by decide +kernel) rfl ?_
      refine ty_getS (b := (63, 0)) (pc := 58) (idx := 45) (ci := 13) (f := 17) (by decide +kernel) (by first | rfl | assumption) rfl (by first | exact hS.1 _ _ rfl | assumption) (by first | exact hS.2.2 _ _ _ _ rfl | assumption) ?_
      refine ty_iload_n (pc := 61) (i := 2) (ks := []) (by decide +kernel) rfl ?_
      refine ty_iload (pc := 62) (i := 4) (ks := []) (by decide +kernel) rfl ?_
      refine ty_iastore (pc := 64) (ks := []) (by decide +kernel) (by first | rfl | assumption) (by rfl) (by first | exact hS.1 _ _ rfl | assumption) (by first | exact hS.2.1 _ _ _ rfl | assumption) (by omega) ?_
      rw [rm_sA (by decide)]
      refine ty_iload_n (pc := 65) (i := 3) (ks := []) (by decide +kernel) rfl ?_
      refine ty_iconst (pc := 66) (n := 1) (ks := []) (by decide +kernel) ?_
      -- at 67: .if_icmp .ne 11
      refine ty_icmp_ne (pc := 67) (off := 11) (t := 78) (ks := []) (by decide +kernel) (by omega) (by omega) (fun hc => ?_) (fun hc => ?_)
      rotate_left
      · omega
      refine ty_iload_n (pc := 78) (i := 3) (ks := []) (by decide +kernel) rfl ?_
      refine ty_iconst (pc := 79) (n := 2) (ks := []) (by decide +kernel) ?_
      -- at 80: .if_icmp .ne 11
      refine ty_icmp_ne (pc := 80) (off := 11) (t := 91) (ks := []) (by decide +kernel) (by omega) (by omega) (fun hc => ?_) (fun hc => ?_)
      rotate_left
      · omega
      refine ty_iload_n (pc := 91) (i := 3) (ks := []) (by decide +kernel) rfl ?_
      refine ty_iconst (pc := 92) (n := 3) (ks := []) (by decide +kernel) ?_
      -- at 93: .if_icmp .ne 11
      refine ty_icmp_ne (pc := 93) (off := 11) (t := 104) (ks := []) (by decide +kernel) (by omega) (by omega) (fun hc => ?_) (fun hc => ?_)
      rotate_left
      · omega
      refine ty_iload_n (pc := 104) (i := 3) (ks := []) (by decide +kernel) rfl ?_
      refine ty_iconst (pc := 105) (n := 4) (ks := []) (by decide +kernel) ?_
      -- at 106: .if_icmp .ne 11
      refine ty_icmp_ne (pc := 106) (off := 11) (t := 117) (ks := []) (by decide +kernel) (by omega) (by omega) (fun hc => ?_) (fun hc => ?_)
      rotate_left
      · omega
      refine ty_goto (pc := 117) (off := (-117)) (t := 0) (ks := []) (by decide +kernel) ?_
      -- at 0: .aload_n 0
      exact hs
    refine ty_if_ne (pc := 54) (off := 11) (t := 65) (ks := []) (by decide +kernel) (by omega) (fun hc => ?_) (fun hc => ?_)
    rotate_left
    · exact absurd hc e0
    clear hc
    refine ty_iload_n (pc := 65) (i := 3) (ks := []) (by decide +kernel) rfl ?_
    refine ty_iconst (pc := 66) (n := 1) (ks := []) (by decide +kernel) ?_
    -- at 67: .if_icmp .ne 11
    by_cases e1 : A 71 (to + m) % 5 = 1
    · rw [e1] at hs ⊢
      rw [show ((1 : Int)).toNat = 1 from rfl, ← rm_rows_w (r := 1) (s := 64) (by simp)] at hs
      refine ty_icmp_ne (pc := 67) (off := 11) (t := 78) (ks := []) (by decide +kernel) (by omega) (by omega) (fun hc => ?_) (fun hc => ?_)
      · exact absurd rfl hc
      refine ty_aload_n (pc := 70) (i := 0) (ks := []) (by decide +kernel) rfl ?_
      refine ty_getS (b := (64, 0)) (pc := 71) (idx := 48) (ci := 13) (f := 18) (by decide +kernel) (by first | rfl | assumption) rfl (by first | exact hS.1 _ _ rfl | assumption) (by first | exact hS.2.2 _ _ _ _ rfl | assumption) ?_
      refine ty_iload_n (pc := 74) (i := 2) (ks := []) (by decide +kernel) rfl ?_
      refine ty_iload (pc := 75) (i := 4) (ks := []) (by decide +kernel) rfl ?_
      refine ty_iastore (pc := 77) (ks := []) (by decide +kernel) (by first | rfl | assumption) (by rfl) (by first | exact hS.1 _ _ rfl | assumption) (by first | exact hS.2.1 _ _ _ rfl | assumption) (by omega) ?_
      rw [rm_sA (by decide)]
      refine ty_iload_n (pc := 78) (i := 3) (ks := []) (by decide +kernel) rfl ?_
      refine ty_iconst (pc := 79) (n := 2) (ks := []) (by decide +kernel) ?_
      -- at 80: .if_icmp .ne 11
      refine ty_icmp_ne (pc := 80) (off := 11) (t := 91) (ks := []) (by decide +kernel) (by omega) (by omega) (fun hc => ?_) (fun hc => ?_)
      rotate_left
      · omega
      refine ty_iload_n (pc := 91) (i := 3) (ks := []) (by decide +kernel) rfl ?_
      refine ty_iconst (pc := 92) (n := 3) (ks := []) (by decide +kernel) ?_
      -- at 93: .if_icmp .ne 11
      refine ty_icmp_ne (pc := 93) (off := 11) (t := 104) (ks := []) (by decide +kernel) (by omega) (by omega) (fun hc => ?_) (fun hc => ?_)
      rotate_left
      · omega
      refine ty_iload_n (pc := 104) (i := 3) (ks := []) (by decide +kernel) rfl ?_
      refine ty_iconst (pc := 105) (n := 4) (ks := []) (by decide +kernel) ?_
      -- at 106: .if_icmp .ne 11
      refine ty_icmp_ne (pc := 106) (off := 11) (t := 117) (ks := []) (by decide +kernel) (by omega) (by omega) (fun hc => ?_) (fun hc => ?_)
      rotate_left
      · omega
      refine ty_goto (pc := 117) (off := (-117)) (t := 0) (ks := []) (by decide +kernel) ?_
      -- at 0: .aload_n 0
      exact hs
    refine ty_icmp_ne (pc := 67) (off := 11) (t := 78) (ks := []) (by decide +kernel) (by omega) (by omega) (fun hc => ?_) (fun hc => ?_)
    rotate_left
    · exact absurd hc e1
    clear hc
    refine ty_iload_n (pc := 78) (i := 3) (ks := []) (by decide +kernel) rfl ?_
    refine ty_iconst (pc := 79) (n := 2) (ks := []) (by decide +kernel) ?_
    -- at 80: .if_icmp .ne 11
    by_cases e2 : A 71 (to + m) % 5 = 2
    · rw [e2] at hs ⊢
      rw [show ((2 : Int)).toNat = 2 from rfl, ← rm_rows_w (r := 2) (s := 65) (by simp)] at hs
      refine ty_icmp_ne (pc := 80) (off := 11) (t := 91) (ks := []) (by decide +kernel) (by omega) (by omega) (fun hc => ?_) (fun hc => ?_)
      · exact absurd rfl hc
      refine ty_aload_n (pc := 83) (i := 0) (ks := []) (by decide +kernel) rfl ?_
      refine ty_getS (b := (65, 0)) (pc := 84) (idx := 51) (ci := 13) (f := 19) (by decide +kernel) (by first | rfl | assumption) rfl (by first | exact hS.1 _ _ rfl | assumption) (by first | exact hS.2.2 _ _ _ _ rfl | assumption) ?_
      refine ty_iload_n (pc := 87) (i := 2) (ks := []) (by decide +kernel) rfl ?_
      refine ty_iload (pc := 88) (i := 4) (ks := []) (by decide +kernel) rfl ?_
      refine ty_iastore (pc := 90) (ks := []) (by decide +kernel) (by first | rfl | assumption) (by rfl) (by first | exact hS.1 _ _ rfl | assumption) (by first | exact hS.2.1 _ _ _ rfl | assumption) (by omega) ?_
      rw [rm_sA (by decide)]
      refine ty_iload_n (pc := 91) (i := 3) (ks := []) (by decide +kernel) rfl ?_
      refine ty_iconst (pc := 92) (n := 3) (ks := []) (by decide +kernel) ?_
      -- at 93: .if_icmp .ne 11
      refine ty_icmp_ne (pc := 93) (off := 11) (t := 104) (ks := []) (by decide +kernel) (by omega) (by omega) (fun hc => ?_) (fun hc => ?_)
      rotate_left
      · omega
      refine ty_iload_n (pc := 104) (i := 3) (ks := []) (by decide +kernel) rfl ?_
      refine ty_iconst (pc := 105) (n := 4) (ks := []) (by decide +kernel) ?_
      -- at 106: .if_icmp .ne 11
      refine ty_icmp_ne (pc := 106) (off := 11) (t := 117) (ks := []) (by decide +kernel) (by omega) (by omega) (fun hc => ?_) (fun hc => ?_)
      rotate_left
      · omega
      refine ty_goto (pc := 117) (off := (-117)) (t := 0) (ks := []) (by decide +kernel) ?_
      -- at 0: .aload_n 0
      exact hs
    refine ty_icmp_ne (pc := 80) (off := 11) (t := 91) (ks := []) (by decide +kernel) (by omega) (by omega) (fun hc => ?_) (fun hc => ?_)
    rotate_left
    · exact absurd hc e2
    clear hc
    refine ty_iload_n (pc := 91) (i := 3) (ks := []) (by decide +kernel) rfl ?_
    refine ty_iconst (pc := 92) (n := 3) (ks := []) (by decide +kernel) ?_
    -- at 93: .if_icmp .ne 11
    by_cases e3 : A 71 (to + m) % 5 = 3
    · have k3 := k3 e3
      rw [e3] at hs ⊢
      rw [show ((3 : Int)).toNat = 3 from rfl, ← rm_rows_w (r := 3) (s := 74) (by simp)] at hs
      refine ty_icmp_ne (pc := 93) (off := 11) (t := 104) (ks := []) (by decide +kernel) (by omega) (by omega) (fun hc => ?_) (fun hc => ?_)
      · exact absurd rfl hc
      refine ty_aload_n (pc := 96) (i := 0) (ks := []) (by decide +kernel) rfl ?_
      refine ty_getS (b := (74, 0)) (pc := 97) (idx := 78) (ci := 13) (f := 44) (by decide +kernel) (by first | rfl | assumption) rfl (by first | exact hS.1 _ _ rfl | assumption) (by first | exact hS.2.2 _ _ _ _ rfl | assumption) ?_
      refine ty_iload_n (pc := 100) (i := 2) (ks := []) (by decide +kernel) rfl ?_
      refine ty_iload (pc := 101) (i := 4) (ks := []) (by decide +kernel) rfl ?_
      refine ty_iastore (pc := 103) (ks := []) (by decide +kernel) (by first | rfl | assumption) (by rfl) (by first | exact hS.1 _ _ rfl | assumption) (by first | exact hS.2.1 _ _ _ rfl | assumption) (by omega) ?_
      rw [rm_sA (by decide)]
      refine ty_iload_n (pc := 104) (i := 3) (ks := []) (by decide +kernel) rfl ?_
      refine ty_iconst (pc := 105) (n := 4) (ks := []) (by decide +kernel) ?_
      -- at 106: .if_icmp .ne 11
      refine ty_icmp_ne (pc := 106) (off := 11) (t := 117) (ks := []) (by decide +kernel) (by omega) (by omega) (fun hc => ?_) (fun hc => ?_)
      rotate_left
      · omega
      refine ty_goto (pc := 117) (off := (-117)) (t := 0) (ks := []) (by decide +kernel) ?_
      -- at 0: .aload_n 0
      exact hs
    refine ty_icmp_ne (pc := 93) (off := 11) (t := 104) (ks := []) (by decide +kernel) (by omega) (by omega) (fun hc => ?_) (fun hc => ?_)
    rotate_left
    · exact absurd hc e3
    clear hc
    refine ty_iload_n (pc := 104) (i := 3) (ks := []) (by decide +kernel) rfl ?_
    refine ty_iconst (pc := 105) (n := 4) (ks := []) (by decide +kernel) ?_
    -- at 106: .if_icmp .ne 11
    have e4 : A 71 (to + m) % 5 = 4 := by omega
    have k4 := k4 e4
    rw [e4] at hs ⊢
    rw [show ((4 : Int)).toNat = 4 from rfl, ← rm_rows_w (r := 4) (s := 77) (by simp)] at hs
    refine ty_icmp_ne (pc := 106) (off := 11) (t := 117) (ks := []) (by decide +kernel) (by omega) (by omega) (fun hc => ?_) (fun hc => ?_)
    · exact absurd rfl hc
    refine ty_aload_n (pc := 109) (i := 0) (ks := []) (by decide +kernel) rfl ?_
    refine ty_getS (b := (77, 0)) (pc := 110) (idx := 87) (ci := 13) (f := 47) (by decide +kernel) (by first | rfl | assumption) rfl (by first | exact hS.1 _ _ rfl | assumption) (by first | exact hS.2.2 _ _ _ _ rfl | assumption) ?_
    refine ty_iload_n (pc := 113) (i := 2) (ks := []) (by decide +kernel) rfl ?_
    refine ty_iload (pc := 114) (i := 4) (ks := []) (by decide +kernel) rfl ?_
    refine ty_iastore (pc := 116) (ks := []) (by decide +kernel) (by first | rfl | assumption) (by rfl) (by first | exact hS.1 _ _ rfl | assumption) (by first | exact hS.2.1 _ _ _ rfl | assumption) (by omega) ?_
    rw [rm_sA (by decide)]
    refine ty_goto (pc := 117) (off := (-117)) (t := 0) (ks := []) (by decide +kernel) ?_
    -- at 0: .aload_n 0
    exact hs
end RMTR
