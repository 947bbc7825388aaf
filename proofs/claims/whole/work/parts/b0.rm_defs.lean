/-! The reference's states: S, but its ints are I and its arrays A. -/
def rm_s (S : ty_S) (I : Nat → Int) (A : Nat → Int → Int) : ty_S := (fun b j => if b = (94, 0) then I j else S.1 b j, S.2.1, fun b => if (53 ≤ b.1 ∧ b.1 ≤ 92) ∧ b.2 = 0 then A b.1 else S.2.2.1 b, S.2.2.2)
def rm_u (I : Nat → Int) (k : Nat) (v : Int) : Nat → Int := fun j => if j = k then v else I j
def rm_w (A : Nat → Int → Int) (s : Nat) (i v : Int) : Nat → Int → Int := fun q j => if q = s ∧ j = i then v else A q j
section RMD
variable {L : Nat} {xs : Nat → Int32} {S : ty_S} {I : Nat → Int} {A : Nat → Int → Int}
theorem rm_I {k : Nat} : (rm_s S I A).1 (94, 0) k = I k := by simp [rm_s]
theorem rm_A {s : Nat} (h : 53 ≤ s ∧ s ≤ 92) {i : Int} : (rm_s S I A).2.2.1 (s, 0) i = A s i := by
  show (if (53 ≤ s ∧ s ≤ 92) ∧ 0 = 0 then A s else S.2.2.1 (s, 0)) i = A s i
  rw [if_pos ⟨h, rfl⟩]
theorem rm_sI {k : Nat} {v : Int} : ty_sI (rm_s S I A) (94, 0) k v = rm_s S (rm_u I k v) A := by
  refine Prod.ext ?_ rfl
  funext b j
  show (if b = (94, 0) ∧ j = k then v else if b = (94, 0) then I j else S.1 b j) = if b = (94, 0) then (if j = k then v else I j) else S.1 b j
  by_cases e : b = (94, 0)
  · by_cases e2 : j = k
    · rw [if_pos ⟨e, e2⟩, if_pos e, if_pos e2]
    · rw [if_neg (fun w => e2 w.2), if_pos e, if_pos e, if_neg e2]
  · rw [if_neg (fun w => e w.1), if_neg e, if_neg e]
theorem rm_sA {s : Nat} (h : 53 ≤ s ∧ s ≤ 92) {i v : Int} : ty_sA (rm_s S I A) (s, 0) i v = rm_s S I (rm_w A s i v) := by
  refine Prod.ext rfl (Prod.ext rfl (Prod.ext ?_ rfl))
  funext b j
  show (if b = (s, 0) ∧ j = i then v else (if (53 ≤ b.1 ∧ b.1 ≤ 92) ∧ b.2 = 0 then A b.1 else S.2.2.1 b) j) = (if (53 ≤ b.1 ∧ b.1 ≤ 92) ∧ b.2 = 0 then (fun j => if b.1 = s ∧ j = i then v else A b.1 j) else S.2.2.1 b) j
  obtain ⟨q, r⟩ := b
  by_cases e : q = s ∧ r = 0
  · obtain ⟨rfl, rfl⟩ := e
    have e3 : (53 ≤ q ∧ q ≤ 92) ∧ (0 : Nat) = 0 := ⟨h, rfl⟩
    dsimp only
    rw [if_pos e3, if_pos e3]
    by_cases e2 : j = i
    · rw [if_pos ⟨rfl, e2⟩, if_pos ⟨rfl, e2⟩]
    · rw [if_neg (fun w => e2 w.2), if_neg (fun w => e2 w.2)]
  · rw [if_neg (fun w => e (by cases w.1; exact ⟨rfl, rfl⟩))]
    by_cases e3 : (53 ≤ q ∧ q ≤ 92) ∧ r = 0
    · rw [if_pos e3, if_pos e3]
      show A q j = if q = s ∧ j = i then v else A q j
      rw [if_neg (fun w => e ⟨w.1, e3.2⟩)]
    · rw [if_neg e3, if_neg e3]
/-- every state is of that kind -/
theorem rm_s_self : rm_s S (S.1 (94, 0)) (fun q => S.2.2.1 (q, 0)) = S := by
  refine Prod.ext ?_ (Prod.ext rfl (Prod.ext ?_ rfl))
  · funext b j
    show (if b = (94, 0) then S.1 (94, 0) j else S.1 b j) = S.1 b j
    by_cases e : b = (94, 0)
    · rw [if_pos e, e]
    · rw [if_neg e]
  · funext b
    show (if (53 ≤ b.1 ∧ b.1 ≤ 92) ∧ b.2 = 0 then S.2.2.1 (b.1, 0) else S.2.2.1 b) = S.2.2.1 b
    by_cases e : (53 ≤ b.1 ∧ b.1 ≤ 92) ∧ b.2 = 0
    · rw [if_pos e, ← e.2]
    · rw [if_neg e]
theorem rm_st (h : ty_st S) : ty_st (rm_s S I A) := h
theorem rm_in (d : Nat) {v a b : Int} (hv : -2147483648 ≤ v ∧ v ≤ 2147483647) (ha : -2147483648 ≤ a ∧ a ≤ 2147483647) (hb : -2147483648 ≤ b ∧ b ≤ 2147483647) : ty_C L xs (d + 1) 105 [.inl (ty_J v), .inl (ty_J a), .inl (ty_J b)] S (ty_oI fun z S' => z = (if a ≤ v ∧ v ≤ b then 1 else 0) ∧ S' = S) := by
  refine ty_enter (ml := 3) (ls := [_, _, _]) rfl rfl (Nat.le_of_ble_eq_true rfl) ?_
  refine ty_iload_n (pc := 0) (i := 0) (ks := []) (by decide +kernel) rfl ?_
  refine ty_iload_n (pc := 1) (i := 1) (ks := []) (by decide +kernel) rfl ?_
  refine ty_icmp_lt (pc := 2) (off := 12) (t := 14) (ks := []) (by decide +kernel) (by omega) (by omega) (fun hc => ?_) (fun hc => ?_)
  · refine ty_iconst (pc := 14) (n := 0) (ks := []) (by decide +kernel) ?_
    refine ty_ret_i (pc := 15) (ks := []) (ty := .boolean) (by decide +kernel) rfl (ty_fit_z (by omega)) ?_
    exact ⟨_, rfl, by first | rw [if_pos (by omega)] | rw [if_neg (by omega)], rfl⟩
  · refine ty_iload_n (pc := 5) (i := 0) (ks := []) (by decide +kernel) rfl ?_
    refine ty_iload_n (pc := 6) (i := 2) (ks := []) (by decide +kernel) rfl ?_
    refine ty_icmp_gt (pc := 7) (off := 7) (t := 14) (ks := []) (by decide +kernel) (by omega) (by omega) (fun hc => ?_) (fun hc => ?_)
    · refine ty_iconst (pc := 14) (n := 0) (ks := []) (by decide +kernel) ?_
      refine ty_ret_i (pc := 15) (ks := []) (ty := .boolean) (by decide +kernel) rfl (ty_fit_z (by omega)) ?_
      exact ⟨_, rfl, by first | rw [if_pos (by omega)] | rw [if_neg (by omega)], rfl⟩
    · refine ty_iconst (pc := 10) (n := 1) (ks := []) (by decide +kernel) ?_
      refine ty_goto (pc := 11) (off := 4) (t := 15) (ks := []) (by decide +kernel) ?_
      refine ty_ret_i (pc := 15) (ks := []) (ty := .boolean) (by decide +kernel) rfl (ty_fit_z (by omega)) ?_
      exact ⟨_, rfl, by first | rw [if_pos (by omega)] | rw [if_neg (by omega)], rfl⟩
theorem rm_bad (d : Nat) (hS : ty_st S) {f : Int} (hf : f = 0 ∨ f = 1) : ty_C L xs (d + 1) 106 [.inr (.inr (some (94, 0))), .inl (ty_J f)] (rm_s S I A) (ty_oI fun z S' => z = 1 - f ∧ S' = rm_s S (rm_u I 11 (1 - f)) A) := by
  refine ty_enter (ml := 2) (ls := [_, _]) rfl rfl (Nat.le_of_ble_eq_true rfl) ?_
  rcases hf with rfl | rfl
  · refine ty_aload_n (pc := 0) (i := 0) (ks := []) (by decide +kernel) rfl ?_
    refine ty_iload_n (pc := 1) (i := 1) (ks := []) (by decide +kernel) rfl ?_
    -- at 2: .ifCond .eq 7
    refine ty_if_eq (pc := 2) (off := 7) (t := 9) (ks := []) (by decide +kernel) (by omega) (fun hc => ?_) (fun hc => ?_)
    · refine ty_iconst (pc := 9) (n := 1) (ks := []) (by decide +kernel) ?_
      refine ty_putI (pc := 10) (idx := 135) (ci := 13) (f := 11) (by decide +kernel) (by first | rfl | assumption) rfl rfl (by first | exact hS.1 _ _ rfl | assumption) ?_
      rw [rm_sI]
      refine ty_iload_n (pc := 13) (i := 1) (ks := []) (by decide +kernel) rfl ?_
      -- at 14: .ifCond .ne 7
      refine ty_if_ne (pc := 14) (off := 7) (t := 21) (ks := []) (by decide +kernel) (by omega) (fun hc => ?_) (fun hc => ?_)
      · exact absurd rfl hc
      · refine ty_iconst (pc := 17) (n := 1) (ks := []) (by decide +kernel) ?_
        refine ty_goto (pc := 18) (off := 4) (t := 22) (ks := []) (by decide +kernel) ?_
        -- at 22: .ireturn
        refine ty_ret_i (pc := 22) (ks := []) (ty := .boolean) (by decide +kernel) rfl (ty_fit_z (by omega)) ?_
        exact ⟨_, rfl, rfl, rfl⟩
    · exact absurd rfl hc
  · refine ty_aload_n (pc := 0) (i := 0) (ks := []) (by decide +kernel) rfl ?_
    refine ty_iload_n (pc := 1) (i := 1) (ks := []) (by decide +kernel) rfl ?_
    -- at 2: .ifCond .eq 7
    refine ty_if_eq (pc := 2) (off := 7) (t := 9) (ks := []) (by decide +kernel) (by omega) (fun hc => ?_) (fun hc => ?_)
    · exact absurd hc (by decide)
    · refine ty_iconst (pc := 5) (n := 0) (ks := []) (by decide +kernel) ?_
      refine ty_goto (pc := 6) (off := 4) (t := 10) (ks := []) (by decide +kernel) ?_
      refine ty_putI (pc := 10) (idx := 135) (ci := 13) (f := 11) (by decide +kernel) (by first | rfl | assumption) rfl rfl (by first | exact hS.1 _ _ rfl | assumption) ?_
      rw [rm_sI]
      refine ty_iload_n (pc := 13) (i := 1) (ks := []) (by decide +kernel) rfl ?_
      -- at 14: .ifCond .ne 7
      refine ty_if_ne (pc := 14) (off := 7) (t := 21) (ks := []) (by decide +kernel) (by omega) (fun hc => ?_) (fun hc => ?_)
      · refine ty_iconst (pc := 21) (n := 0) (ks := []) (by decide +kernel) ?_
        -- at 22: .ireturn
        refine ty_ret_i (pc := 22) (ks := []) (ty := .boolean) (by decide +kernel) rfl (ty_fit_z (by omega)) ?_
        exact ⟨_, rfl, rfl, rfl⟩
      · exact absurd hc (by decide)
theorem rm_fail (d : Nat) (hS : ty_st S) {c : Int} : ty_C L xs (d + 1) 107 [.inr (.inr (some (94, 0))), .inl (ty_J c)] (rm_s S I A) (ty_oI fun z S' => z = 0 ∧ S' = rm_s S (rm_u I 11 c) A) := by
  refine ty_enter (ml := 2) (ls := [_, _]) rfl rfl (Nat.le_of_ble_eq_true rfl) ?_
  refine ty_aload_n (pc := 0) (i := 0) (ks := []) (by decide +kernel) rfl ?_
  refine ty_iload_n (pc := 1) (i := 1) (ks := []) (by decide +kernel) rfl ?_
  refine ty_putI (pc := 2) (idx := 135) (ci := 13) (f := 11) (by decide +kernel) (by first | rfl | assumption) rfl rfl (by first | exact hS.1 _ _ rfl | assumption) ?_
  rw [rm_sI]
  refine ty_iconst (pc := 5) (n := 0) (ks := []) (by decide +kernel) ?_
  -- at 6: .ireturn
  refine ty_ret_i (pc := 6) (ks := []) (ty := .int) (by decide +kernel) rfl rfl ?_
  exact ⟨_, rfl, rfl, rfl⟩
theorem rm_thrown (d : Nat) (hS : ty_st S) : ty_C L xs (d + 1) 103 [.inr (.inr (some (94, 0)))] (rm_s S I A) (ty_oI fun z S' => z = I 11 ∧ S' = rm_s S I A) := by
  refine ty_enter (ml := 1) (ls := [_]) rfl rfl (Nat.le_of_ble_eq_true rfl) ?_
  refine ty_aload_n (pc := 0) (i := 0) (ks := []) (by decide +kernel) rfl ?_
  refine ty_getI (pc := 1) (idx := 135) (ci := 13) (f := 11) (by decide +kernel) (by first | rfl | assumption) rfl (by first | exact hS.1 _ _ rfl | assumption) (fun v hv => ?_)
  simp (decide := true) only [rm_I, rm_u, rm_w, ty_sI, ty_sR, ty_sA, ty_sQ, ty_mA, ty_mQ, ↓reduceIte, false_and, and_false, true_and, and_true, and_self] at hv
  subst hv
  -- at 4: .ireturn
  refine ty_ret_i (pc := 4) (ks := []) (ty := .int) (by decide +kernel) rfl rfl ?_
  exact ⟨_, rfl, rfl, rfl⟩
/-- the text typed -/
def rm_X (I : Nat → Int) (A : Nat → Int → Int) (tx : List Int) : Prop := I 7 = tx.length ∧ tx.length ≤ 48 ∧ (∀ c ∈ tx, 33 ≤ c ∧ c ≤ 126) ∧ mo_at (A 53) 0 tx
theorem rm_X_at {tx : List Int} (h : rm_X I A tx) {p : Int} (hp : 0 ≤ p ∧ p < tx.length) : A 53 p = dk_f tx p := by
  have hk : tx[p.toNat]? = some tx[p.toNat] := List.getElem?_eq_getElem (by omega)
  have := mo_at_get h.2.2.2 hk
  rw [show (0 : Int) + (p.toNat : Int) = p by omega] at this
  unfold dk_f
  rw [this, if_pos hp, List.getD_eq_getElem?_getD, hk]
  rfl
theorem dk_f_r {tx : List Int} (h : ∀ c ∈ tx, 33 ≤ c ∧ c ≤ 126) {p : Int} : 0 ≤ dk_f tx p ∧ dk_f tx p ≤ 126 := by
  by_cases e : 0 ≤ p ∧ p < (tx.length : Int)
  · have := h _ (dk_f_mem e)
    omega
  · unfold dk_f
    rw [if_neg e]
    decide
theorem rm_look (d : Nat) (hS : ty_st S) {tx : List Int} (hX : rm_X I A tx) {p : Int} (hp : I 10 = p) (hpr : 0 ≤ p ∧ p ≤ tx.length) : ty_C L xs (d + 1) 111 [.inr (.inr (some (94, 0)))] (rm_s S I A) (ty_oI fun z S' => z = dk_f tx p ∧ S' = rm_s S I A) := by
  have h1 := hX.1
  have h2 := hX.2.1
  have hpr' : 0 ≤ I 10 ∧ I 10 ≤ 48 := by rw [hp]; omega
  have hsr : 0 ≤ I 7 ∧ I 7 ≤ 48 := by rw [h1]; omega
  refine ty_enter (ml := 1) (ls := [_]) rfl rfl (Nat.le_of_ble_eq_true rfl) ?_
  refine ty_aload_n (pc := 0) (i := 0) (ks := []) (by decide +kernel) rfl ?_
  refine ty_getI (pc := 1) (idx := 153) (ci := 13) (f := 10) (by decide +kernel) (by first | rfl | assumption) rfl (by first | exact hS.1 _ _ rfl | assumption) (fun v hv => ?_)
  simp (decide := true) only [rm_I, rm_u, rm_w, ty_sI, ty_sR, ty_sA, ty_sQ, ty_mA, ty_mQ, ↓reduceIte, false_and, and_false, true_and, and_true, and_self] at hv
  subst hv
  refine ty_aload_n (pc := 4) (i := 0) (ks := []) (by decide +kernel) rfl ?_
  refine ty_getI (pc := 5) (idx := 146) (ci := 13) (f := 7) (by decide +kernel) (by first | rfl | assumption) rfl (by first | exact hS.1 _ _ rfl | assumption) (fun v hv => ?_)
  simp (decide := true) only [rm_I, rm_u, rm_w, ty_sI, ty_sR, ty_sA, ty_sQ, ty_mA, ty_mQ, ↓reduceIte, false_and, and_false, true_and, and_true, and_self] at hv
  subst hv
  -- at 8: .if_icmp .ge 15
  refine ty_icmp_ge (pc := 8) (off := 15) (t := 23) (ks := []) (by decide +kernel) (by omega) (by omega) (fun hc => ?_) (fun hc => ?_)
  · refine ty_iconst (pc := 23) (n := 0) (ks := []) (by decide +kernel) ?_
    -- at 24: .ireturn
    refine ty_ret_i (pc := 24) (ks := []) (ty := .int) (by decide +kernel) rfl rfl ?_
    exact ⟨_, rfl, by rw [dk_f_n (by omega)], rfl⟩
  · refine ty_aload_n (pc := 11) (i := 0) (ks := []) (by decide +kernel) rfl ?_
    refine ty_getS (b := (53, 0)) (pc := 12) (idx := 7) (ci := 13) (f := 0) (by decide +kernel) (by first | rfl | assumption) rfl (by first | exact hS.1 _ _ rfl | assumption) (by first | exact hS.2.2 _ _ _ _ rfl | assumption) ?_
    refine ty_aload_n (pc := 15) (i := 0) (ks := []) (by decide +kernel) rfl ?_
    refine ty_getI (pc := 16) (idx := 153) (ci := 13) (f := 10) (by decide +kernel) (by first | rfl | assumption) rfl (by first | exact hS.1 _ _ rfl | assumption) (fun v hv => ?_)
    simp (decide := true) only [rm_I, rm_u, rm_w, ty_sI, ty_sR, ty_sA, ty_sQ, ty_mA, ty_mQ, ↓reduceIte, false_and, and_false, true_and, and_true, and_self] at hv
    subst hv
    refine ty_iaload (pc := 19) (ks := []) (by decide +kernel) (by first | rfl | assumption) (by rfl) (by first | exact hS.1 _ _ rfl | assumption) (by first | exact hS.2.1 _ _ _ rfl | assumption) (by omega) (fun v hv => ?_)
    rw [rm_A (by decide)] at hv
    first | (simp (decide := true) only [rm_w, ty_sI, ty_sR, ty_sA, ty_sQ, ty_mA, ty_mQ, ↓reduceIte, false_and, and_false, true_and, and_true, and_self] at hv) | skip
    subst hv
    refine ty_goto (pc := 20) (off := 4) (t := 24) (ks := []) (by decide +kernel) ?_
    -- at 24: .ireturn
    refine ty_ret_i (pc := 24) (ks := []) (ty := .int) (by decide +kernel) rfl rfl ?_
    refine ⟨_, rfl, ?_, rfl⟩
    rw [rm_X_at hX (by omega), hp]
theorem rm_passes (d : Nat) (hS : ty_st S) {tx : List Int} (hX : rm_X I A tx) {p : Int} (hp : I 10 = p) (hpr : 0 ≤ p ∧ p ≤ tx.length) {c : Int} (hc0 : 0 < c ∧ c ≤ 126) : ty_C L xs (d + 2) 112 [.inr (.inr (some (94, 0))), .inl (ty_J c)] (rm_s S I A) (ty_oI fun z S' => (z = 1 ∧ dk_f tx p = c ∧ S' = rm_s S (rm_u I 10 (p + 1)) A) ∨ (z = 0 ∧ dk_f tx p ≠ c ∧ S' = rm_s S I A)) := by
  have hr := dk_f_r hX.2.2.1 (p := p)
  refine ty_enter (ml := 2) (ls := [_, _]) rfl rfl (Nat.le_of_ble_eq_true rfl) ?_
  refine ty_aload_n (pc := 0) (i := 0) (ks := []) (by decide +kernel) rfl ?_
  -- at 1: .invokevirtual 156
  refine ty_callv (pc := 1) (idx := 156) (m := 111) (n := 1) (c := 13) (vs := []) (r := []) (by decide +kernel) rfl rfl (Nat.le_of_ble_eq_true rfl) (by first | rfl | assumption) (by first | exact hS.1 _ _ rfl | assumption) (rm_look d hS hX hp hpr) ?_
  rintro _ S1 ⟨z, rfl, rfl, rfl⟩
  refine ty_KI ?_
  refine ty_iload_n (pc := 4) (i := 1) (ks := []) (by decide +kernel) rfl ?_
  -- at 5: .if_icmp .eq 5
  refine ty_icmp_eq (pc := 5) (off := 5) (t := 10) (ks := []) (by decide +kernel) (by omega) (by omega) (fun hc => ?_) (fun hc => ?_)
  · refine ty_aload_n (pc := 10) (i := 0) (ks := []) (by decide +kernel) rfl ?_
    refine ty_dup (pc := 11) (ks := []) (by decide +kernel) rfl ?_
    refine ty_getI (pc := 12) (idx := 153) (ci := 13) (f := 10) (by decide +kernel) (by first | rfl | assumption) rfl (by first | exact hS.1 _ _ rfl | assumption) (fun v hv => ?_)
    simp (decide := true) only [rm_I, rm_u, rm_w, ty_sI, ty_sR, ty_sA, ty_sQ, ty_mA, ty_mQ, ↓reduceIte, false_and, and_false, true_and, and_true, and_self] at hv
    subst hv
    refine ty_iconst (pc := 15) (n := 1) (ks := []) (by decide +kernel) ?_
    refine ty_iadd (pc := 16) (ks := []) (by decide +kernel) ?_
    refine ty_putI (pc := 17) (idx := 153) (ci := 13) (f := 10) (by decide +kernel) (by first | rfl | assumption) rfl rfl (by first | exact hS.1 _ _ rfl | assumption) ?_
    rw [rm_sI]
    refine ty_iconst (pc := 20) (n := 1) (ks := []) (by decide +kernel) ?_
    -- at 21: .ireturn
    refine ty_ret_i (pc := 21) (ks := []) (ty := .boolean) (by decide +kernel) rfl (ty_fit_z (by omega)) ?_
    exact ⟨1, rfl, .inl ⟨rfl, hc, by rw [hp]⟩⟩
  · refine ty_iconst (pc := 8) (n := 0) (ks := []) (by decide +kernel) ?_
    -- at 9: .ireturn
    refine ty_ret_i (pc := 9) (ks := []) (ty := .boolean) (by decide +kernel) rfl (ty_fit_z (by omega)) ?_
    exact ⟨0, rfl, .inr ⟨rfl, hc, rfl⟩⟩
end RMD
