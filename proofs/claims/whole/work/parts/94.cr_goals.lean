/-! The class reads goals. -/
/-- what readGoal comes to -/
def cr_gp (S : ty_S) (n : Int) (a : ai_A) (x : Nat) (k : Int) (sg lf rt : Int → Int) (p : Int) (l ar g : Int → Int) (R : Bool × Int × (Int × Int × Int) × pt_N) : ai_O → ty_S → Prop := ty_oI fun z S' => z = (if R.1 = true then 1 else 0) ∧ ∃ l' ar' g', S' = (if R.1 = true then cr_s (cr_b S a x (k + 1) (mo_up sg k (pt_abs x R.2.2.1).1) (mo_up lf k (pt_abs x R.2.2.1).2.1) (mo_up rt k (pt_abs x R.2.2.1).2.2)) R.2.1 l' ar' g' else cr_s (cr_b S a x k sg lf rt) R.2.1 l' ar' g') ∧ pt_fr x p R.2.1 l ar g l' ar' g' ∧ (R.1 = true → pt_at (cr_h S n) x l' ar' g' R.2.2.2)
section CRH
variable {L : Nat} {xs : Nat → Int32} {S : ty_S} {n : Int} {a : ai_A} {x : Nat}
theorem cr_h_0 (hnz : ∀ i, 0 ≤ i → i < n → S.2.2.1 (10, 0) i ≠ 0) {p : Int} (hp : 0 ≤ p ∧ p ≤ n) : cr_h S n p = 0 ↔ p = n := by
  unfold cr_h
  constructor
  · intro h
    by_cases e : p < n
    · rw [if_pos ⟨hp.1, e⟩] at h
      exact absurd h (hnz p hp.1 e)
    · omega
  · intro h
    rw [if_neg (by omega)]
theorem cr_goal (d : Nat) (hR : cr_R S n a x) (hnz : ∀ i, 0 ≤ i → i < n → S.2.2.1 (10, 0) i ≠ 0) {k p : Int} {sg lf rt l ar g : Int → Int} (hp : 0 ≤ p ∧ p ≤ n) (hk : 0 ≤ k ∧ k < 24) :
    ty_C L xs (d + 13) 29 [.inr (.inr (some (16, 0)))] (cr_s (cr_b S a x k sg lf rt) p l ar g) (cr_gp S n a x k sg lf rt p l ar g (pt_g (cr_h S n) p)) := by
  have hnn : ∀ p, n ≤ p → cr_h S n p = 0 := fun p hp => cr_h_n hp
  have hB := cr_b_R hR (k := k) (sg := sg) (lf := lf) (rt := rt)
  have r5 := hR.2.2.2.2.1
  have hx12 := cr_cl_r r5
  have haR := cr_cl_ne r5
  have term : ∀ (p : Int) (l ar g : Int → Int), 0 ≤ p → p ≤ n → ty_C L xs (d + 12) 23 [.inr (.inr (some (16, 0))), .inl (ty_J 1)] (cr_s (cr_b S a x k sg lf rt) p l ar g) (cr_tp (cr_b S a x k sg lf rt) n x p l ar g (pt_t (cr_h S n) 5 p)) := fun p l ar g h0 h1 => cr_term (L := L) (xs := xs) hB 5 d (Nat.le_refl _) p l ar g h0 h1
  have hst : ∀ (p : Int) (l ar g : Int → Int), ty_st (cr_s (cr_b S a x k sg lf rt) p l ar g) := fun _ _ _ _ => hR.1
  have hinto : ∀ (p : Int) (l ar g : Int → Int), (cr_s (cr_b S a x k sg lf rt) p l ar g).2.1 (16, 0) 4 = some a := fun _ _ _ _ => hR.2.2.2.1
  have hstart : ∀ (p : Int) (l ar g : Int → Int), (cr_s (cr_b S a x k sg lf rt) p l ar g).1 a 0 = 48 * x := fun _ _ _ _ => (cr_s_I (fun w => haR w.1)).trans hB.2.2.2.2.2.1
  have hend : ∀ (p : Int) (l ar g : Int → Int), (cr_s (cr_b S a x k sg lf rt) p l ar g).1 (16, 0) 2 = n := fun _ _ _ _ => (cr_s_I (by decide)).trans hB.2.2.1
  have hat0 : ∀ (p : Int) (l ar g : Int → Int), (cr_s (cr_b S a x k sg lf rt) p l ar g).1 (16, 0) 3 = p := fun _ _ _ _ => cr_s_at
  have hfa : ∀ (p : Int) (l ar g : Int → Int), ty_sk a.1 = (1, 3) ∧ a.2 < (cr_s (cr_b S a x k sg lf rt) p l ar g).2.2.2.2.2.2.1 a.1 := fun p l ar g => by
    obtain ⟨f1, f2, -⟩ := cs_cl_facts (hst p l ar g) r5
    exact ⟨f1, f2⟩
  have hhb : cr_h (cr_b S a x k sg lf rt) n = cr_h S n := rfl
  have hn48 := hR.2.2.2.2.2.2.1
  have hcr := cr_h_r hR hp.1
  have hS := hst p l ar g
  refine ty_enter (ml := 5) (ls := [_, _, _, _, _]) rfl rfl (Nat.le_of_ble_eq_true rfl) ?_
  refine ty_aload_n (pc := 0) (i := 0) (ks := []) (by decide +kernel) rfl ?_
  refine ty_bipush (pc := 1) (n := 33) (ks := []) (by decide +kernel) (by omega) ?_
  -- at 3: .invokevirtual 38
  refine ty_callv (pc := 3) (idx := 38) (m := 27) (n := 2) (c := 4) (vs := [_]) (r := []) (by decide +kernel) rfl rfl (Nat.le_of_ble_eq_true rfl) (by first | rfl | assumption) (by first | exact hS.1 _ _ rfl | assumption) ((cr_skip (d + 11) hB hp (c := 33) (by decide)).deeper (by omega)) ?_
  rintro _ S1 ⟨z, rfl, ⟨rfl, hh, rfl⟩ | ⟨rfl, hh, rfl⟩⟩
  · -- a cut
    rw [hhb] at hh
    refine ty_KI ?_
    have eq : pt_g (cr_h S n) p = (true, p + 1, (33, 0, 0), []) := by
      unfold pt_g
      rw [if_pos hh]
    rw [eq]
    obtain ⟨f1, f2⟩ := hfa (p + 1) l ar g
    have f3 := hinto (p + 1) l ar g
    have hS := hst (p + 1) l ar g
    refine ty_if_eq (pc := 6) (off := 16) (t := 22) (ks := []) (by decide +kernel) (by omega) (fun hc => ?_) (fun hc => ?_)
    · exact absurd hc (by decide)
    refine ty_aload_n (pc := 9) (i := 0) (ks := []) (by decide +kernel) rfl ?_
    first | refine ty_getS (pc := 10) (idx := 52) (ci := 4) (f := 4) (by decide +kernel) (by first | rfl | assumption) rfl (by first | exact hS.1 _ _ rfl | assumption) (by assumption) ?_ | (refine ty_getR (pc := 10) (idx := 52) (ci := 4) (f := 4) (by decide +kernel) (by first | rfl | assumption) rfl (by first | exact hS.1 _ _ rfl | assumption) (fun v hv => ?_); (subst hv))
    refine ty_bipush (pc := 13) (n := 33) (ks := []) (by decide +kernel) (by omega) ?_
    refine ty_iconst (pc := 15) (n := 0) (ks := []) (by decide +kernel) ?_
    refine ty_iconst (pc := 16) (n := 0) (ks := []) (by decide +kernel) ?_
    -- at 17: .invokevirtual 64
    refine ty_callv (pc := 17) (idx := 64) (m := 30) (n := 4) (c := 3) (vs := [_, _, _]) (r := []) (by decide +kernel) rfl rfl (Nat.le_of_ble_eq_true rfl) (by first | rfl | assumption) (by first | exact hS.1 _ _ rfl | assumption) ((cr_putGoal (d + 11) hR (s := 33) (y := 0) (z := 0) hk (by decide)).deeper (by omega)) ?_
    rintro _ S2 ⟨rfl, rfl⟩
    refine ty_KV ?_
    refine ty_iconst (pc := 20) (n := 1) (ks := []) (by decide +kernel) ?_
    -- at 21: .ireturn
    refine ty_ret_i (pc := 21) (ks := []) (ty := .boolean) (by decide +kernel) rfl (ty_fit_z (by omega)) ?_
    exact ⟨1, rfl, rfl, l, ar, g, rfl, pt_fr.refl, fun _ q as hm => (nomatch hm)⟩
  · rw [hhb] at hh
    refine ty_KI ?_
    refine ty_if_eq (pc := 6) (off := 16) (t := 22) (ks := []) (by decide +kernel) (by omega) (fun hc => ?_) (fun hc => ?_)
    rotate_left
    · exact absurd rfl hc
    clear hc
    obtain ⟨f1, f2⟩ := hfa p l ar g
    have f3 := hinto p l ar g
    refine ty_aload_n (pc := 22) (i := 0) (ks := []) (by decide +kernel) rfl ?_
    first | refine ty_getS (pc := 23) (idx := 52) (ci := 4) (f := 4) (by decide +kernel) (by first | rfl | assumption) rfl (by first | exact hS.1 _ _ rfl | assumption) (by assumption) ?_ | (refine ty_getR (pc := 23) (idx := 52) (ci := 4) (f := 4) (by decide +kernel) (by first | rfl | assumption) rfl (by first | exact hS.1 _ _ rfl | assumption) (fun v hv => ?_); (subst hv))
    refine ty_getI (pc := 26) (idx := 68) (ci := 3) (f := 0) (by decide +kernel) (by first | rfl | assumption) rfl (by first | exact hS.1 _ _ rfl | assumption) (fun v hv => ?_)
    subst hv
    refine ty_aload_n (pc := 29) (i := 0) (ks := []) (by decide +kernel) rfl ?_
    refine ty_getI (pc := 30) (idx := 15) (ci := 4) (f := 3) (by decide +kernel) (by first | rfl | assumption) rfl (by first | exact hS.1 _ _ rfl | assumption) (fun v hv => ?_)
    subst hv
    refine ty_iadd (pc := 33) (ks := []) (by decide +kernel) ?_
    refine ty_istore_n (pc := 34) (i := 1) (ks := []) (ls' := [_, _, _, _, _]) (by decide +kernel) rfl ?_
    refine ty_aload_n (pc := 35) (i := 0) (ks := []) (by decide +kernel) rfl ?_
    -- at 36: .invokevirtual 26
    rw [hstart, hat0]
    refine ty_callv (pc := 36) (idx := 26) (m := 21) (n := 1) (c := 4) (vs := []) (r := []) (by decide +kernel) rfl rfl (Nat.le_of_ble_eq_true rfl) (by first | rfl | assumption) (by first | exact hS.1 _ _ rfl | assumption) ((cr_here (d + 11) hB hp).deeper (by omega)) ?_
    rintro _ S2 ⟨c, rfl, rfl, rfl⟩
    refine ty_KI ?_
    rw [hhb]
    refine ty_calls (pc := 39) (idx := 30) (m := 22) (n := 1) (c := 0) (av := [_]) (r := []) (by decide +kernel) rfl rfl (Nat.le_of_ble_eq_true rfl) ((ct_isSmall (d + 11) hcr).deeper (by omega)) ?_
    rintro _ S3 ⟨w, rfl, hw, rfl⟩
    refine ty_KI ?_
    have hwr : 0 ≤ w ∧ w ≤ 1 := by rw [hw]; split <;> omega
    refine ty_istore_n (pc := 42) (i := 2) (ks := []) (ls' := [_, _, _, _, _]) (by decide +kernel) rfl ?_
    refine ty_aload_n (pc := 43) (i := 0) (ks := []) (by decide +kernel) rfl ?_
    refine ty_iconst (pc := 44) (n := 1) (ks := []) (by decide +kernel) ?_
    -- at 45: .invokevirtual 34
    refine ty_callv (pc := 45) (idx := 34) (m := 23) (n := 2) (c := 4) (vs := [_]) (r := []) (by decide +kernel) rfl rfl (Nat.le_of_ble_eq_true rfl) (by first | rfl | assumption) (by first | exact hS.1 _ _ rfl | assumption) (term p l ar g hp.1 hp.2) ?_
    rintro _ S4 ⟨z, rfl, hz, l1, a1, g1, rfl, hf1, hat1⟩
    refine ty_KI ?_
    obtain ⟨k1, k2, k3⟩ := pt_t_spec hnn 5 p hp.1 hp.2
    have eqg : pt_g (cr_h S n) p = if (pt_t (cr_h S n) 5 p).1 = false then (false, (pt_t (cr_h S n) 5 p).2.1, (0, 0, 0), (pt_t (cr_h S n) 5 p).2.2)
      else if (97 ≤ (cr_h S n) p ∧ (cr_h S n) p ≤ 122) ∧ ((cr_h S n) (pt_t (cr_h S n) 5 p).2.1 = 0 ∨ (cr_h S n) (pt_t (cr_h S n) 5 p).2.1 = 44) then (true, (pt_t (cr_h S n) 5 p).2.1, (40, p, p), (pt_t (cr_h S n) 5 p).2.2)
      else if ¬ ((cr_h S n) (pt_t (cr_h S n) 5 p).2.1 = 61 ∨ (cr_h S n) (pt_t (cr_h S n) 5 p).2.1 = 126 ∨ (cr_h S n) (pt_t (cr_h S n) 5 p).2.1 = 60 ∨ (cr_h S n) (pt_t (cr_h S n) 5 p).2.1 = 63) then (false, (pt_t (cr_h S n) 5 p).2.1, (0, 0, 0), (pt_t (cr_h S n) 5 p).2.2)
      else if (cr_h S n) (pt_t (cr_h S n) 5 p).2.1 = 63 ∧ ¬ (97 ≤ (cr_h S n) ((pt_t (cr_h S n) 5 p).2.1 + 1) ∧ (cr_h S n) ((pt_t (cr_h S n) 5 p).2.1 + 1) ≤ 122) then (false, (pt_t (cr_h S n) 5 p).2.1 + 1, (0, 0, 0), (pt_t (cr_h S n) 5 p).2.2)
      else ((pt_t (cr_h S n) 5 ((pt_t (cr_h S n) 5 p).2.1 + 1)).1, (pt_t (cr_h S n) 5 ((pt_t (cr_h S n) 5 p).2.1 + 1)).2.1, ((cr_h S n) (pt_t (cr_h S n) 5 p).2.1, p, (pt_t (cr_h S n) 5 p).2.1 + 1), (pt_t (cr_h S n) 5 p).2.2 ++ (pt_t (cr_h S n) 5 ((pt_t (cr_h S n) 5 p).2.1 + 1)).2.2) := by
      unfold pt_g
      rw [if_neg hh]
    rw [eqg]
    clear eqg
    generalize hT : pt_t (cr_h S n) 5 p = T at hz hf1 hat1 k1 k2 k3
    obtain ⟨ok, p1, N1⟩ := T
    simp only at hz hf1 hat1 k1 k2 k3 ⊢
    have hS := hst p1 l1 a1 g1
    cases ok with
    | false =>
      rw [if_neg (by decide)] at hz
      subst hz
      rw [if_pos rfl]
      refine ty_if_ne (pc := 48) (off := 5) (t := 53) (ks := []) (by decide +kernel) (by omega) (fun hc => ?_) (fun hc => ?_)
      · exact absurd rfl hc
      · refine ty_iconst (pc := 51) (n := 0) (ks := []) (by decide +kernel) ?_
        -- at 52: .ireturn
        refine ty_ret_i (pc := 52) (ks := []) (ty := .boolean) (by decide +kernel) rfl (ty_fit_z (by omega)) ?_
        exact ⟨0, rfl, rfl, l1, a1, g1, rfl, hf1, fun w => absurd (show false = true from w) (by decide)⟩
    | true =>
      rw [if_pos rfl] at hz
      subst hz
      rw [if_neg (show ¬ (true = false) by decide)]
      obtain ⟨k4, k5, k6⟩ := k3 rfl
      have hat1 := hat1 rfl
      have hp1 : 0 ≤ p1 ∧ p1 ≤ n := ⟨by omega, k2⟩
      have hcr1 := cr_h_r hR hp1.1
      have hz0 := cr_h_0 hnz hp1
      refine ty_if_ne (pc := 48) (off := 5) (t := 53) (ks := []) (by decide +kernel) (by omega) (fun hc => ?_) (fun hc => ?_)
      rotate_left
      · exact absurd hc (by decide)
      clear hc
      refine ty_aload_n (pc := 53) (i := 0) (ks := []) (by decide +kernel) rfl ?_
      -- at 54: .invokevirtual 26
      refine ty_callv (pc := 54) (idx := 26) (m := 21) (n := 1) (c := 4) (vs := []) (r := []) (by decide +kernel) rfl rfl (Nat.le_of_ble_eq_true rfl) (by first | rfl | assumption) (by first | exact hS.1 _ _ rfl | assumption) ((cr_here (d + 11) hB hp1).deeper (by omega)) ?_
      rintro _ S5 ⟨c, rfl, rfl, rfl⟩
      refine ty_KI ?_
      rw [hhb]
      have hlt1 : cr_h S n p1 ≠ 0 → p1 < n := fun z => by
        have : p1 ≠ n := fun y => z (hz0.mpr y)
        omega
      generalize hc1 : cr_h S n p1 = c1 at hcr1 hz0 hlt1
      -- it is a call
      have iscall : ty_W L xs (d + 12) 29 79 [some (.inr (.inr (some (16, 0)))), some (.inl (ty_J (48 * x + p))), some (.inl (ty_J w)), some (.inl (ty_J c1)), none] [] (cr_s (cr_b S a x k sg lf rt) p1 l1 a1 g1) (cr_gp S n a x k sg lf rt p l ar g (true, p1, (40, p, p), N1)) := by
        obtain ⟨f1, f2⟩ := hfa p1 l1 a1 g1
        have f3 := hinto p1 l1 a1 g1
        refine ty_aload_n (pc := 79) (i := 0) (ks := []) (by decide +kernel) rfl ?_
        first | refine ty_getS (pc := 80) (idx := 52) (ci := 4) (f := 4) (by decide +kernel) (by first | rfl | assumption) rfl (by first | exact hS.1 _ _ rfl | assumption) (by assumption) ?_ | (refine ty_getR (pc := 80) (idx := 52) (ci := 4) (f := 4) (by decide +kernel) (by first | rfl | assumption) rfl (by first | exact hS.1 _ _ rfl | assumption) (fun v hv => ?_); (subst hv))
        refine ty_bipush (pc := 83) (n := 40) (ks := []) (by decide +kernel) (by omega) ?_
        refine ty_iload_n (pc := 85) (i := 1) (ks := []) (by decide +kernel) rfl ?_
        refine ty_iload_n (pc := 86) (i := 1) (ks := []) (by decide +kernel) rfl ?_
        -- at 87: .invokevirtual 64
        refine ty_callv (pc := 87) (idx := 64) (m := 30) (n := 4) (c := 3) (vs := [_, _, _]) (r := []) (by decide +kernel) rfl rfl (Nat.le_of_ble_eq_true rfl) (by first | rfl | assumption) (by first | exact hS.1 _ _ rfl | assumption) ((cr_putGoal (d + 11) hR (s := 40) (y := 48 * x + p) (z := 48 * x + p) hk (by decide)).deeper (by omega)) ?_
        rintro _ S6 ⟨rfl, rfl⟩
        refine ty_KV ?_
        refine ty_iconst (pc := 90) (n := 1) (ks := []) (by decide +kernel) ?_
        -- at 91: .ireturn
        refine ty_ret_i (pc := 91) (ks := []) (ty := .boolean) (by decide +kernel) rfl (ty_fit_z (by omega)) ?_
        exact ⟨1, rfl, rfl, l1, a1, g1, rfl, hf1, fun _ => hat1⟩
      -- a sign and a second term
      have second : (c1 = 61 ∨ c1 = 126 ∨ c1 = 60 ∨ c1 = 63) → ty_W L xs (d + 12) 29 118 [some (.inr (.inr (some (16, 0)))), some (.inl (ty_J (48 * x + p))), some (.inl (ty_J w)), some (.inl (ty_J c1)), none] [] (cr_s (cr_b S a x k sg lf rt) p1 l1 a1 g1) (cr_gp S n a x k sg lf rt p l ar g (if c1 = 63 ∧ ¬ (97 ≤ cr_h S n (p1 + 1) ∧ cr_h S n (p1 + 1) ≤ 122) then (false, p1 + 1, (0, 0, 0), N1) else ((pt_t (cr_h S n) 5 (p1 + 1)).1, (pt_t (cr_h S n) 5 (p1 + 1)).2.1, (c1, p, p1 + 1), N1 ++ (pt_t (cr_h S n) 5 (p1 + 1)).2.2))) := by
        intro hcs
        have hp2 : p1 < n := hlt1 (by omega)
        have hfm : pt_fr x p (p1 + 1) l ar g l1 a1 g1 := pt_fr.trans hf1 (pt_fr.refl (p := p) (p' := p1)) ⟨Int.le_refl _, Int.le_refl _⟩ ⟨by omega, by omega⟩
        have e9 : ty_sI (cr_s (cr_b S a x k sg lf rt) p1 l1 a1 g1) (16, 0) 3 (p1 + 1) = cr_s (cr_b S a x k sg lf rt) (p1 + 1) l1 a1 g1 := cr_s_p
        refine ty_aload_n (pc := 118) (i := 0) (ks := []) (by decide +kernel) rfl ?_
        refine ty_dup (pc := 119) (ks := []) (by decide +kernel) rfl ?_
        refine ty_getI (pc := 120) (idx := 15) (ci := 4) (f := 3) (by decide +kernel) (by first | rfl | assumption) rfl (by first | exact hS.1 _ _ rfl | assumption) (fun v hv => ?_)
        subst hv
        refine ty_iconst (pc := 123) (n := 1) (ks := []) (by decide +kernel) ?_
        refine ty_iadd (pc := 124) (ks := []) (by decide +kernel) ?_
        refine ty_putI (pc := 125) (idx := 15) (ci := 4) (f := 3) (by decide +kernel) (by first | rfl | assumption) rfl rfl (by first | exact hS.1 _ _ rfl | assumption) ?_
        -- at 128: .aload_n 0
        rw [hat0, e9]
        obtain ⟨f1, f2⟩ := hfa (p1 + 1) l1 a1 g1
        have f3 := hinto (p1 + 1) l1 a1 g1
        have hS := hst (p1 + 1) l1 a1 g1
        refine ty_aload_n (pc := 128) (i := 0) (ks := []) (by decide +kernel) rfl ?_
        first | refine ty_getS (pc := 129) (idx := 52) (ci := 4) (f := 4) (by decide +kernel) (by first | rfl | assumption) rfl (by first | exact hS.1 _ _ rfl | assumption) (by assumption) ?_ | (refine ty_getR (pc := 129) (idx := 52) (ci := 4) (f := 4) (by decide +kernel) (by first | rfl | assumption) rfl (by first | exact hS.1 _ _ rfl | assumption) (fun v hv => ?_); (subst hv))
        refine ty_getI (pc := 132) (idx := 68) (ci := 3) (f := 0) (by decide +kernel) (by first | rfl | assumption) rfl (by first | exact hS.1 _ _ rfl | assumption) (fun v hv => ?_)
        subst hv
        refine ty_aload_n (pc := 135) (i := 0) (ks := []) (by decide +kernel) rfl ?_
        refine ty_getI (pc := 136) (idx := 15) (ci := 4) (f := 3) (by decide +kernel) (by first | rfl | assumption) rfl (by first | exact hS.1 _ _ rfl | assumption) (fun v hv => ?_)
        subst hv
        refine ty_iadd (pc := 139) (ks := []) (by decide +kernel) ?_
        refine ty_istore (pc := 140) (i := 4) (ks := []) (ls' := [_, _, _, _, _]) (by decide +kernel) rfl ?_
        refine ty_iload_n (pc := 142) (i := 3) (ks := []) (by decide +kernel) rfl ?_
        refine ty_bipush (pc := 143) (n := 63) (ks := []) (by decide +kernel) (by omega) ?_
        -- at 145: .if_icmp .ne 13
        rw [hstart, hat0]
        -- the second term itself
        have last : ty_W L xs (d + 12) 29 158 [some (.inr (.inr (some (16, 0)))), some (.inl (ty_J (48 * x + p))), some (.inl (ty_J w)), some (.inl (ty_J c1)), some (.inl (ty_J (48 * x + (p1 + 1))))] [] (cr_s (cr_b S a x k sg lf rt) (p1 + 1) l1 a1 g1) (cr_gp S n a x k sg lf rt p l ar g ((pt_t (cr_h S n) 5 (p1 + 1)).1, (pt_t (cr_h S n) 5 (p1 + 1)).2.1, (c1, p, p1 + 1), N1 ++ (pt_t (cr_h S n) 5 (p1 + 1)).2.2)) := by
          refine ty_aload_n (pc := 158) (i := 0) (ks := []) (by decide +kernel) rfl ?_
          refine ty_iconst (pc := 159) (n := 1) (ks := []) (by decide +kernel) ?_
          -- at 160: .invokevirtual 34
          refine ty_callv (pc := 160) (idx := 34) (m := 23) (n := 2) (c := 4) (vs := [_]) (r := []) (by decide +kernel) rfl rfl (Nat.le_of_ble_eq_true rfl) (by first | rfl | assumption) (by first | exact hS.1 _ _ rfl | assumption) (term (p1 + 1) l1 a1 g1 (by omega) (by omega)) ?_
          rintro _ S6 ⟨z, rfl, hz, l2, a2, g2, rfl, hf2, hat2⟩
          refine ty_KI ?_
          obtain ⟨j1, j2, j3⟩ := pt_t_spec hnn 5 (p1 + 1) (by omega) (by omega)
          generalize pt_t (cr_h S n) 5 (p1 + 1) = T at hz hf2 hat2 j1 j2 j3
          obtain ⟨ok, p2, N2⟩ := T
          simp only at hz hf2 hat2 j1 j2 j3 ⊢
          have hf3 : pt_fr x p p2 l ar g l2 a2 g2 := pt_fr.trans hfm hf2 ⟨Int.le_refl _, by omega⟩ ⟨by omega, Int.le_refl _⟩
          have hS := hst p2 l2 a2 g2
          cases ok with
          | false =>
            rw [if_neg (by decide)] at hz
            subst hz
            refine ty_if_ne (pc := 163) (off := 5) (t := 168) (ks := []) (by decide +kernel) (by omega) (fun hc => ?_) (fun hc => ?_)
            · exact absurd rfl hc
            · refine ty_iconst (pc := 166) (n := 0) (ks := []) (by decide +kernel) ?_
              -- at 167: .ireturn
              refine ty_ret_i (pc := 167) (ks := []) (ty := .boolean) (by decide +kernel) rfl (ty_fit_z (by omega)) ?_
              exact ⟨0, rfl, rfl, l2, a2, g2, rfl, hf3, fun w => absurd (show false = true from w) (by decide)⟩
          | true =>
            rw [if_pos rfl] at hz
            subst hz
            refine ty_if_ne (pc := 163) (off := 5) (t := 168) (ks := []) (by decide +kernel) (by omega) (fun hc => ?_) (fun hc => ?_)
            · clear hc
              obtain ⟨f1, f2⟩ := hfa p2 l2 a2 g2
              have f3 := hinto p2 l2 a2 g2
              refine ty_aload_n (pc := 168) (i := 0) (ks := []) (by decide +kernel) rfl ?_
              first | refine ty_getS (pc := 169) (idx := 52) (ci := 4) (f := 4) (by decide +kernel) (by first | rfl | assumption) rfl (by first | exact hS.1 _ _ rfl | assumption) (by assumption) ?_ | (refine ty_getR (pc := 169) (idx := 52) (ci := 4) (f := 4) (by decide +kernel) (by first | rfl | assumption) rfl (by first | exact hS.1 _ _ rfl | assumption) (fun v hv => ?_); (subst hv))
              refine ty_iload_n (pc := 172) (i := 3) (ks := []) (by decide +kernel) rfl ?_
              refine ty_iload_n (pc := 173) (i := 1) (ks := []) (by decide +kernel) rfl ?_
              refine ty_iload (pc := 174) (i := 4) (ks := []) (by decide +kernel) rfl ?_
              -- at 176: .invokevirtual 64
              refine ty_callv (pc := 176) (idx := 64) (m := 30) (n := 4) (c := 3) (vs := [_, _, _]) (r := []) (by decide +kernel) rfl rfl (Nat.le_of_ble_eq_true rfl) (by first | rfl | assumption) (by first | exact hS.1 _ _ rfl | assumption) ((cr_putGoal (d + 11) hR (s := c1) (y := 48 * x + p) (z := 48 * x + (p1 + 1)) hk hcr1).deeper (by omega)) ?_
              rintro _ S7 ⟨rfl, rfl⟩
              refine ty_KV ?_
              refine ty_iconst (pc := 179) (n := 1) (ks := []) (by decide +kernel) ?_
              -- at 180: .ireturn
              refine ty_ret_i (pc := 180) (ks := []) (ty := .boolean) (by decide +kernel) rfl (ty_fit_z (by omega)) ?_
              refine ⟨1, rfl, rfl, l2, a2, g2, ?_, hf3, fun _ q as hm => ?_⟩
              · have e33 : ¬ (c1 = 33) := by omega
                have ea : pt_abs x (c1, p, p1 + 1) = (c1, 48 * x + p, 48 * x + (p1 + 1)) := if_neg e33
                rw [if_pos rfl]
                simp only [ea]
              · rcases List.mem_append.mp hm with y | y
                · exact pt_at_fr hat1 k5 hf2 (.inl (by omega)) q as y
                · exact hat2 rfl q as y
            · exact absurd hc (by decide)
        by_cases e63 : c1 = 63
        · subst e63
          refine ty_icmp_ne (pc := 145) (off := 13) (t := 158) (ks := []) (by decide +kernel) (by omega) (by omega) (fun hc => ?_) (fun hc => ?_)
          · exact absurd rfl hc
          · clear hc
            refine ty_aload_n (pc := 148) (i := 0) (ks := []) (by decide +kernel) rfl ?_
            -- at 149: .invokevirtual 26
            refine ty_callv (pc := 149) (idx := 26) (m := 21) (n := 1) (c := 4) (vs := []) (r := []) (by decide +kernel) rfl rfl (Nat.le_of_ble_eq_true rfl) (by first | rfl | assumption) (by first | exact hS.1 _ _ rfl | assumption) ((cr_here (d + 11) hB (p := p1 + 1) ⟨by omega, by omega⟩).deeper (by omega)) ?_
            rintro _ S6 ⟨c, rfl, rfl, rfl⟩
            refine ty_KI ?_
            rw [hhb]
            refine ty_calls (pc := 152) (idx := 30) (m := 22) (n := 1) (c := 0) (av := [_]) (r := []) (by decide +kernel) rfl rfl (Nat.le_of_ble_eq_true rfl) ((ct_isSmall (d + 11) (cr_h_r hR (p := p1 + 1) (by omega))).deeper (by omega)) ?_
            rintro _ S7 ⟨y, rfl, hy, rfl⟩
            refine ty_KI ?_
            have hyr : 0 ≤ y ∧ y ≤ 1 := by rw [hy]; split <;> omega
            refine ty_if_eq (pc := 155) (off := 11) (t := 166) (ks := []) (by decide +kernel) (by omega) (fun hc => ?_) (fun hc => ?_)
            · refine ty_iconst (pc := 166) (n := 0) (ks := []) (by decide +kernel) ?_
              -- at 167: .ireturn
              refine ty_ret_i (pc := 167) (ks := []) (ty := .boolean) (by decide +kernel) rfl (ty_fit_z (by omega)) ?_
              rw [if_pos ⟨rfl, fun q => by rw [if_pos q] at hy; omega⟩]
              exact ⟨0, rfl, rfl, l1, a1, g1, rfl, hfm, fun w => absurd (show false = true from w) (by decide)⟩
            · have hsm : 97 ≤ cr_h S n (p1 + 1) ∧ cr_h S n (p1 + 1) ≤ 122 := by
                by_cases q : 97 ≤ cr_h S n (p1 + 1) ∧ cr_h S n (p1 + 1) ≤ 122
                · exact q
                · rw [if_neg q] at hy
                  exact absurd hy hc
              rw [if_neg (fun q => q.2 hsm)]
              exact last
        · rw [if_neg (fun q => e63 q.1)]
          refine ty_icmp_ne (pc := 145) (off := 13) (t := 158) (ks := []) (by decide +kernel) (by omega) (by omega) (fun hc => ?_) (fun hc => ?_)
          · exact last
          · exact absurd hc e63
      -- it is none
      have other : ty_W L xs (d + 12) 29 92 [some (.inr (.inr (some (16, 0)))), some (.inl (ty_J (48 * x + p))), some (.inl (ty_J w)), some (.inl (ty_J c1)), none] [] (cr_s (cr_b S a x k sg lf rt) p1 l1 a1 g1) (cr_gp S n a x k sg lf rt p l ar g (if ¬ (c1 = 61 ∨ c1 = 126 ∨ c1 = 60 ∨ c1 = 63) then (false, p1, (0, 0, 0), N1) else if c1 = 63 ∧ ¬ (97 ≤ cr_h S n (p1 + 1) ∧ cr_h S n (p1 + 1) ≤ 122) then (false, p1 + 1, (0, 0, 0), N1) else ((pt_t (cr_h S n) 5 (p1 + 1)).1, (pt_t (cr_h S n) 5 (p1 + 1)).2.1, (c1, p, p1 + 1), N1 ++ (pt_t (cr_h S n) 5 (p1 + 1)).2.2))) := by
        refine ty_iload_n (pc := 92) (i := 3) (ks := []) (by decide +kernel) rfl ?_
        refine ty_bipush (pc := 93) (n := 61) (ks := []) (by decide +kernel) (by omega) ?_
        -- at 95: .if_icmp .eq 23
        refine ty_icmp_eq (pc := 95) (off := 23) (t := 118) (ks := []) (by decide +kernel) (by omega) (by omega) (fun hc => ?_) (fun hc => ?_)
        · rw [if_neg (fun q => q (.inl hc))]
          exact second (.inl hc)
        have h61 := hc
        refine ty_iload_n (pc := 98) (i := 3) (ks := []) (by decide +kernel) rfl ?_
        refine ty_bipush (pc := 99) (n := 126) (ks := []) (by decide +kernel) (by omega) ?_
        -- at 101: .if_icmp .eq 17
        refine ty_icmp_eq (pc := 101) (off := 17) (t := 118) (ks := []) (by decide +kernel) (by omega) (by omega) (fun hc => ?_) (fun hc => ?_)
        · rw [if_neg (fun q => q (.inr (.inl hc)))]
          exact second (.inr (.inl hc))
        have h126 := hc
        refine ty_iload_n (pc := 104) (i := 3) (ks := []) (by decide +kernel) rfl ?_
        refine ty_bipush (pc := 105) (n := 60) (ks := []) (by decide +kernel) (by omega) ?_
        -- at 107: .if_icmp .eq 11
        refine ty_icmp_eq (pc := 107) (off := 11) (t := 118) (ks := []) (by decide +kernel) (by omega) (by omega) (fun hc => ?_) (fun hc => ?_)
        · rw [if_neg (fun q => q (.inr (.inr (.inl hc))))]
          exact second (.inr (.inr (.inl hc)))
        have h60 := hc
        refine ty_iload_n (pc := 110) (i := 3) (ks := []) (by decide +kernel) rfl ?_
        refine ty_bipush (pc := 111) (n := 63) (ks := []) (by decide +kernel) (by omega) ?_
        -- at 113: .if_icmp .eq 5
        refine ty_icmp_eq (pc := 113) (off := 5) (t := 118) (ks := []) (by decide +kernel) (by omega) (by omega) (fun hc => ?_) (fun hc => ?_)
        · rw [if_neg (fun q => q (.inr (.inr (.inr hc))))]
          exact second (.inr (.inr (.inr hc)))
        · refine ty_iconst (pc := 116) (n := 0) (ks := []) (by decide +kernel) ?_
          -- at 117: .ireturn
          refine ty_ret_i (pc := 117) (ks := []) (ty := .boolean) (by decide +kernel) rfl (ty_fit_z (by omega)) ?_
          rw [if_pos (by omega)]
          exact ⟨0, rfl, rfl, l1, a1, g1, rfl, hf1, fun w => absurd (show false = true from w) (by decide)⟩
      refine ty_istore_n (pc := 57) (i := 3) (ks := []) (ls' := [_, _, _, _, _]) (by decide +kernel) rfl ?_
      refine ty_iload_n (pc := 58) (i := 2) (ks := []) (by decide +kernel) rfl ?_
      -- at 59: .ifCond .eq 33
      refine ty_if_eq (pc := 59) (off := 33) (t := 92) (ks := []) (by decide +kernel) (by omega) (fun hc => ?_) (fun hc => ?_)
      · rw [if_neg (fun q => by rw [if_pos q.1] at hw; omega)]
        exact other
      · have hsm : 97 ≤ cr_h S n p ∧ cr_h S n p ≤ 122 := by
          by_cases q : 97 ≤ cr_h S n p ∧ cr_h S n p ≤ 122
          · exact q
          · rw [if_neg q] at hw
            exact absurd hw hc
        clear hc
        refine ty_aload_n (pc := 62) (i := 0) (ks := []) (by decide +kernel) rfl ?_
        refine ty_getI (pc := 63) (idx := 15) (ci := 4) (f := 3) (by decide +kernel) (by first | rfl | assumption) rfl (by first | exact hS.1 _ _ rfl | assumption) (fun v hv => ?_)
        subst hv
        refine ty_aload_n (pc := 66) (i := 0) (ks := []) (by decide +kernel) rfl ?_
        refine ty_getI (pc := 67) (idx := 9) (ci := 4) (f := 2) (by decide +kernel) (by first | rfl | assumption) rfl (by first | exact hS.1 _ _ rfl | assumption) (fun v hv => ?_)
        subst hv
        -- at 70: .if_icmp .eq 9
        rw [hat0, hend]
        refine ty_icmp_eq (pc := 70) (off := 9) (t := 79) (ks := []) (by decide +kernel) (by omega) (by omega) (fun hc => ?_) (fun hc => ?_)
        · rw [if_pos ⟨hsm, .inl (hz0.mpr hc)⟩]
          exact iscall
        · have hne := hc
          refine ty_iload_n (pc := 73) (i := 3) (ks := []) (by decide +kernel) rfl ?_
          refine ty_bipush (pc := 74) (n := 44) (ks := []) (by decide +kernel) (by omega) ?_
          -- at 76: .if_icmp .ne 16
          refine ty_icmp_ne (pc := 76) (off := 16) (t := 92) (ks := []) (by decide +kernel) (by omega) (by omega) (fun hc => ?_) (fun hc => ?_)
          · rw [if_neg (fun q => q.2.elim (fun y => hne (hz0.mp y)) hc)]
            exact other
          · rw [if_pos ⟨hsm, .inr hc⟩]
            exact iscall
end CRH
