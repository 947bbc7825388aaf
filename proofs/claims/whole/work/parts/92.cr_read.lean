/-! The class reads a term, all levels. -/
section CRD
variable {L : Nat} {xs : Nat → Int32} {S : ty_S} {n : Int} {a : ai_A} {x : Nat}
theorem cr_cl_r {a : ai_A} {x : Nat} (h : cs_cl a x) : x ≤ 12 := by
  rcases h with ⟨-, z⟩ | ⟨-, z⟩
  · omega
  · omega
theorem cr_cl_ne {a : ai_A} {x : Nat} (h : cs_cl a x) : a ≠ (16, 0) := by
  rcases h with ⟨rfl, -⟩ | ⟨rfl, -⟩
  · simp
  · decide
theorem cr_term_pre (d : Nat) (hR : cr_R S n a x) {p dp : Int} {l ar g : Int → Int} (hp : 0 ≤ p ∧ p ≤ n) {Q : ai_O → ty_S → Prop} {x2 x3 : Option ai_V} (hx2 : x2 = none) (hx3 : x3 = none)
    (q1 : ¬ pt_ch (cr_h S n p) → Q (.inl (some (.inl (ty_J 0)))) (cr_s S p l ar g))
    (q2 : pt_ch (cr_h S n p) → ¬ ((97 ≤ cr_h S n p ∧ cr_h S n p ≤ 122) ∧ cr_h S n (p + 1) = 40) → Q (.inl (some (.inl (ty_J 1)))) (cr_s S (p + 1) (mo_up l (48 * x + p) (cr_h S n p)) (mo_up ar (48 * x + p) 0) g))
    (q3 : pt_ch (cr_h S n p) → (97 ≤ cr_h S n p ∧ cr_h S n p ≤ 122) ∧ cr_h S n (p + 1) = 40 → ty_W L xs (d + 1) 23 89 [some (.inr (.inr (some (16, 0)))), some (.inl (ty_J dp)), some (.inl (ty_J (cr_h S n p))), some (.inl (ty_J (48 * x + p)))] [] (cr_s S (p + 1) (mo_up l (48 * x + p) (cr_h S n p)) (mo_up ar (48 * x + p) 0) g) Q) :
    ty_W L xs (d + 1) 23 0 [some (.inr (.inr (some (16, 0)))), some (.inl (ty_J dp)), x2, x3] [] (cr_s S p l ar g) Q := by
  subst hx2 hx3
  have hcr := cr_h_r hR hp.1
  have hcr1 := cr_h_r hR (p := p + 1) (by omega)
  have hR0 := hR
  obtain ⟨r1, r2, r3, r4, r5, r6, r7, r8⟩ := hR
  have hx12 := cr_cl_r r5
  have haR := cr_cl_ne r5
  have hS : ty_st (cr_s S p l ar g) := r1
  have good : pt_ch (cr_h S n p) → ty_W L xs (d + 1) 23 28 [some (.inr (.inr (some (16, 0)))), some (.inl (ty_J dp)), some (.inl (ty_J (cr_h S n p))), none] [] (cr_s S p l ar g) Q := by
    intro hch
    have hlt : p < n := by
      by_cases z : n ≤ p
      · rw [cr_h_n z] at hch
        unfold pt_ch at hch
        omega
      · omega
    obtain ⟨f1, f2, -⟩ := cs_cl_facts (show ty_st (cr_s S p l ar g) from r1) r5
    have e1 := cr_s_at (S := S) (p := p) (l := l) (ar := ar) (g := g)
    have e2 : (cr_s S p l ar g).1 a 0 = 48 * x := (cr_s_I (fun w => haR w.1)).trans r6
    have e3 : (cr_s S p l ar g).2.1 (16, 0) 4 = some a := r4
    have eg : ty_sI (ty_sA (ty_sA (cr_s S p l ar g) (19, 0) (48 * x + p) (cr_h S n p)) (20, 0) (48 * x + p) 0) (16, 0) 3 (p + 1) = cr_s S (p + 1) (mo_up l (48 * x + p) (cr_h S n p)) (mo_up ar (48 * x + p) 0) g := by rw [cr_s_l, cr_s_a, cr_s_p]
    have eat : (ty_sA (ty_sA (cr_s S p l ar g) (19, 0) (48 * x + p) (cr_h S n p)) (20, 0) (48 * x + p) 0).1 (16, 0) 3 = p := cr_s_at (S := S) (p := p) (l := l) (ar := ar) (g := g)
    have hS2 : ty_st (ty_sA (ty_sA (cr_s S p l ar g) (19, 0) (48 * x + p) (cr_h S n p)) (20, 0) (48 * x + p) 0) := r1
    generalize hc0 : cr_h S n p = c at *
    generalize hT : cr_s S p l ar g = T at e1 e2 e3 hS f1 f2 eg eat hS2
    refine ty_aload_n (pc := 28) (i := 0) (ks := []) (by decide +kernel) rfl ?_
    first | refine ty_getS (pc := 29) (idx := 52) (ci := 4) (f := 4) (by decide +kernel) (by first | rfl | assumption) rfl (by first | exact hS.1 _ _ rfl | assumption) (by assumption) ?_ | (refine ty_getR (pc := 29) (idx := 52) (ci := 4) (f := 4) (by decide +kernel) (by first | rfl | assumption) rfl (by first | exact hS.1 _ _ rfl | assumption) (fun v hv => ?_); (subst hv))
    refine ty_getI (pc := 32) (idx := 68) (ci := 3) (f := 0) (by decide +kernel) (by first | rfl | assumption) rfl (by first | exact hS.1 _ _ rfl | assumption) (fun v hv => ?_)
    subst hv
    refine ty_aload_n (pc := 35) (i := 0) (ks := []) (by decide +kernel) rfl ?_
    refine ty_getI (pc := 36) (idx := 15) (ci := 4) (f := 3) (by decide +kernel) (by first | rfl | assumption) rfl (by first | exact hS.1 _ _ rfl | assumption) (fun v hv => ?_)
    subst hv
    refine ty_iadd (pc := 39) (ks := []) (by decide +kernel) ?_
    -- at 40: .istore_n 3
    rw [e1, e2]
    refine ty_istore_n (pc := 40) (i := 3) (ks := []) (ls' := [_, _, _, _]) (by decide +kernel) rfl ?_
    refine ty_aload_n (pc := 41) (i := 0) (ks := []) (by decide +kernel) rfl ?_
    refine ty_getS (b := (12, 0)) (pc := 42) (idx := 18) (ci := 4) (f := 0) (by decide +kernel) (by first | rfl | assumption) rfl (by first | exact hS.1 _ _ rfl | assumption) (by first | exact hS.2.2 _ _ _ _ rfl | assumption) ?_
    refine ty_getS (b := (19, 0)) (pc := 45) (idx := 77) (ci := 1) (f := 0) (by decide +kernel) (by first | rfl | assumption) rfl (by first | exact hS.1 _ _ rfl | assumption) (by first | exact hS.2.2 _ _ _ _ rfl | assumption) ?_
    refine ty_iload_n (pc := 48) (i := 3) (ks := []) (by decide +kernel) rfl ?_
    refine ty_iload_n (pc := 49) (i := 2) (ks := []) (by decide +kernel) rfl ?_
    refine ty_castore (pc := 50) (ks := []) (by decide +kernel) (by first | rfl | assumption) (by rfl) (by first | exact hS.1 _ _ rfl | assumption) (by first | exact hS.2.1 _ _ _ rfl | assumption) (by omega) (by omega) ?_
    refine ty_aload_n (pc := 51) (i := 0) (ks := []) (by decide +kernel) rfl ?_
    refine ty_getS (b := (12, 0)) (pc := 52) (idx := 18) (ci := 4) (f := 0) (by decide +kernel) (by first | rfl | assumption) rfl (by first | exact hS.1 _ _ rfl | assumption) (by first | exact hS.2.2 _ _ _ _ rfl | assumption) ?_
    refine ty_getS (b := (20, 0)) (pc := 55) (idx := 82) (ci := 1) (f := 1) (by decide +kernel) (by first | rfl | assumption) rfl (by first | exact hS.1 _ _ rfl | assumption) (by first | exact hS.2.2 _ _ _ _ rfl | assumption) ?_
    refine ty_iload_n (pc := 58) (i := 3) (ks := []) (by decide +kernel) rfl ?_
    refine ty_iconst (pc := 59) (n := 0) (ks := []) (by decide +kernel) ?_
    refine ty_iastore (pc := 60) (ks := []) (by decide +kernel) (by first | rfl | assumption) (by rfl) (by first | exact hS.1 _ _ rfl | assumption) (by first | exact hS.2.1 _ _ _ rfl | assumption) (by omega) ?_
    -- at 61: .aload_n 0
    generalize ty_sA (ty_sA T (19, 0) (48 * x + p) c) (20, 0) (48 * x + p) 0 = T2 at eg eat hS2
    have hS := hS2
    refine ty_aload_n (pc := 61) (i := 0) (ks := []) (by decide +kernel) rfl ?_
    refine ty_dup (pc := 62) (ks := []) (by decide +kernel) rfl ?_
    refine ty_getI (pc := 63) (idx := 15) (ci := 4) (f := 3) (by decide +kernel) (by first | rfl | assumption) rfl (by first | exact hS.1 _ _ rfl | assumption) (fun v hv => ?_)
    subst hv
    refine ty_iconst (pc := 66) (n := 1) (ks := []) (by decide +kernel) ?_
    refine ty_iadd (pc := 67) (ks := []) (by decide +kernel) ?_
    refine ty_putI (pc := 68) (idx := 15) (ci := 4) (f := 3) (by decide +kernel) (by first | rfl | assumption) rfl rfl (by first | exact hS.1 _ _ rfl | assumption) ?_
    refine ty_iload_n (pc := 71) (i := 2) (ks := []) (by decide +kernel) rfl ?_
    -- at 72: .invokestatic 30
    rw [eat, eg]
    clear hT eg eat e1 e2 e3 f1 f2 hS hS2
    have hS : ty_st (cr_s S (p + 1) (mo_up l (48 * x + p) c) (mo_up ar (48 * x + p) 0) g) := r1
    refine ty_calls (pc := 72) (idx := 30) (m := 22) (n := 1) (c := 0) (av := [_]) (r := []) (by decide +kernel) rfl rfl (Nat.le_of_ble_eq_true rfl) (ct_isSmall _ hcr) ?_
    rintro _ S1 ⟨z, rfl, hz, rfl⟩
    refine ty_KI ?_
    have hzr : 0 ≤ z ∧ z ≤ 1 := by rw [hz]; split <;> omega
    refine ty_if_eq (pc := 75) (off := 12) (t := 87) (ks := []) (by decide +kernel) (by omega) (fun hc => ?_) (fun hc => ?_)
    · refine ty_iconst (pc := 87) (n := 1) (ks := []) (by decide +kernel) ?_
      -- at 88: .ireturn
      refine ty_ret_i (pc := 88) (ks := []) (ty := .boolean) (by decide +kernel) rfl (ty_fit_z (by omega)) ?_
      refine q2 hch (fun w => ?_)
      rw [if_pos w.1] at hz
      omega
    · have hsm : 97 ≤ c ∧ c ≤ 122 := by
        by_cases e : 97 ≤ c ∧ c ≤ 122
        · exact e
        · rw [if_neg e] at hz
          exact absurd hz hc
      clear hc
      refine ty_aload_n (pc := 78) (i := 0) (ks := []) (by decide +kernel) rfl ?_
      -- at 79: .invokevirtual 26
      refine ty_callv (pc := 79) (idx := 26) (m := 21) (n := 1) (c := 4) (vs := []) (r := []) (by decide +kernel) rfl rfl (Nat.le_of_ble_eq_true rfl) (by first | rfl | assumption) (by first | exact hS.1 _ _ rfl | assumption) (cr_here d hR0 (p := p + 1) ⟨by omega, by omega⟩) ?_
      rintro _ S2 ⟨y, rfl, rfl, rfl⟩
      refine ty_KI ?_
      refine ty_bipush (pc := 82) (n := 40) (ks := []) (by decide +kernel) (by omega) ?_
      -- at 84: .if_icmp .eq 5
      refine ty_icmp_eq (pc := 84) (off := 5) (t := 89) (ks := []) (by decide +kernel) (by omega) (by omega) (fun hc => ?_) (fun hc => ?_)
      · exact q3 hch ⟨hsm, hc⟩
      · refine ty_iconst (pc := 87) (n := 1) (ks := []) (by decide +kernel) ?_
        -- at 88: .ireturn
        refine ty_ret_i (pc := 88) (ks := []) (ty := .boolean) (by decide +kernel) rfl (ty_fit_z (by omega)) ?_
        exact q2 hch (fun w => hc w.2)
  refine ty_aload_n (pc := 0) (i := 0) (ks := []) (by decide +kernel) rfl ?_
  -- at 1: .invokevirtual 26
  refine ty_callv (pc := 1) (idx := 26) (m := 21) (n := 1) (c := 4) (vs := []) (r := []) (by decide +kernel) rfl rfl (Nat.le_of_ble_eq_true rfl) (by first | rfl | assumption) (by first | exact hS.1 _ _ rfl | assumption) (cr_here d hR0 hp) ?_
  rintro _ S1 ⟨y, rfl, rfl, rfl⟩
  refine ty_KI ?_
  have hS : ty_st (cr_s S p l ar g) := r1
  refine ty_istore_n (pc := 4) (i := 2) (ks := []) (ls' := [_, _, _, _]) (by decide +kernel) rfl ?_
  refine ty_iload_n (pc := 5) (i := 2) (ks := []) (by decide +kernel) rfl ?_
  -- at 6: .invokestatic 71
  refine ty_calls (pc := 6) (idx := 71) (m := 24) (n := 1) (c := 0) (av := [_]) (r := []) (by decide +kernel) rfl rfl (Nat.le_of_ble_eq_true rfl) (ct_isVariable _ hcr) ?_
  rintro _ S2 ⟨z, rfl, hz, rfl⟩
  refine ty_KI ?_
  have hzr : 0 ≤ z ∧ z ≤ 1 := by rw [hz]; split <;> omega
  refine ty_if_ne (pc := 9) (off := 19) (t := 28) (ks := []) (by decide +kernel) (by omega) (fun hc => ?_) (fun hc => ?_)
  · refine good (.inl ?_)
    by_cases e : 65 ≤ cr_h S n p ∧ cr_h S n p ≤ 90
    · exact e
    · rw [if_neg e] at hz
      exact absurd hz hc
  have nv : ¬ (65 ≤ cr_h S n p ∧ cr_h S n p ≤ 90) := fun w => by
    rw [if_pos w] at hz
    omega
  clear hz hzr hc z
  refine ty_iload_n (pc := 12) (i := 2) (ks := []) (by decide +kernel) rfl ?_
  -- at 13: .invokestatic 74
  refine ty_calls (pc := 13) (idx := 74) (m := 25) (n := 1) (c := 0) (av := [_]) (r := []) (by decide +kernel) rfl rfl (Nat.le_of_ble_eq_true rfl) (ct_isDigit _ hcr) ?_
  rintro _ S3 ⟨z, rfl, hz, rfl⟩
  refine ty_KI ?_
  have hzr : 0 ≤ z ∧ z ≤ 1 := by rw [hz]; split <;> omega
  refine ty_if_ne (pc := 16) (off := 12) (t := 28) (ks := []) (by decide +kernel) (by omega) (fun hc => ?_) (fun hc => ?_)
  · refine good (.inr (.inl ?_))
    by_cases e : 48 ≤ cr_h S n p ∧ cr_h S n p ≤ 57
    · exact e
    · rw [if_neg e] at hz
      exact absurd hz hc
  have nd : ¬ (48 ≤ cr_h S n p ∧ cr_h S n p ≤ 57) := fun w => by
    rw [if_pos w] at hz
    omega
  clear hz hzr hc z
  refine ty_iload_n (pc := 19) (i := 2) (ks := []) (by decide +kernel) rfl ?_
  -- at 20: .invokestatic 30
  refine ty_calls (pc := 20) (idx := 30) (m := 22) (n := 1) (c := 0) (av := [_]) (r := []) (by decide +kernel) rfl rfl (Nat.le_of_ble_eq_true rfl) (ct_isSmall _ hcr) ?_
  rintro _ S4 ⟨z, rfl, hz, rfl⟩
  refine ty_KI ?_
  have hzr : 0 ≤ z ∧ z ≤ 1 := by rw [hz]; split <;> omega
  refine ty_if_ne (pc := 23) (off := 5) (t := 28) (ks := []) (by decide +kernel) (by omega) (fun hc => ?_) (fun hc => ?_)
  · refine good (.inr (.inr ?_))
    by_cases e : 97 ≤ cr_h S n p ∧ cr_h S n p ≤ 122
    · exact e
    · rw [if_neg e] at hz
      exact absurd hz hc
  · refine ty_iconst (pc := 26) (n := 0) (ks := []) (by decide +kernel) ?_
    -- at 27: .ireturn
    refine ty_ret_i (pc := 27) (ks := []) (ty := .boolean) (by decide +kernel) rfl (ty_fit_z (by omega)) ?_
    refine q1 (fun w => ?_)
    rcases w with w | w | w
    · exact nv w
    · exact nd w
    · rw [if_pos w] at hz
      omega
theorem pt_leaf {h : Int → Int} {x : Nat} {p : Int} {l ar g : Int → Int} : pt_fr x p (p + 1) l ar g (mo_up l (48 * x + p) (h p)) (mo_up ar (48 * x + p) 0) g ∧ pt_at h x (mo_up l (48 * x + p) (h p)) (mo_up ar (48 * x + p) 0) g [(p, [])] := by
  refine ⟨⟨fun i hi => ⟨if_neg (by omega), if_neg (by omega)⟩, fun _ _ => rfl⟩, fun q as hm => ?_⟩
  cases List.mem_singleton.mp hm
  exact ⟨if_pos rfl, if_pos rfl, fun k a hk => by simp at hk⟩
theorem cr_term (hR : cr_R S n a x) : ∀ (m d : Nat), m ≤ 5 → ∀ (p : Int) (l ar g : Int → Int), 0 ≤ p → p ≤ n → ty_C L xs (d + 2 + 2 * m) 23 [.inr (.inr (some (16, 0))), .inl (ty_J (6 - (m : Int)))] (cr_s S p l ar g) (cr_tp S n x p l ar g (pt_t (cr_h S n) m p)) := by
  intro m
  induction m with
  | zero =>
    intro d hm p l ar g h0 h1
    refine ty_enter (ml := 4) (ls := [_, _, _, _]) rfl rfl (Nat.le_of_ble_eq_true rfl) ?_
    refine cr_term_pre d hR ⟨h0, h1⟩ rfl rfl ?_ ?_ ?_
    · intro e1
      unfold pt_t
      rw [if_pos e1]
      exact ⟨0, rfl, rfl, l, ar, g, rfl, pt_fr.refl, fun w => absurd (show false = true from w) (by decide)⟩
    · intro e1 e2
      unfold pt_t
      rw [if_neg (not_not_intro e1), if_neg e2]
      exact ⟨1, rfl, rfl, _, _, _, rfl, pt_leaf.1, fun _ => pt_leaf.2⟩
    · intro e1 e2
      have hS : ty_st (cr_s S (p + 1) (mo_up l (48 * x + p) (cr_h S n p)) (mo_up ar (48 * x + p) 0) g) := hR.1
      refine ty_iload_n (pc := 89) (i := 1) (ks := []) (by decide +kernel) rfl ?_
      refine ty_bipush (pc := 90) (n := 6) (ks := []) (by decide +kernel) (by omega) ?_
      -- at 92: .if_icmp .ge 18
      refine ty_icmp_ge (pc := 92) (off := 18) (t := 110) (ks := []) (by decide +kernel) (by omega) (by omega) (fun hc => ?_) (fun hc => ?_)
      · refine ty_iconst (pc := 110) (n := 0) (ks := []) (by decide +kernel) ?_
        -- at 111: .ireturn
        refine ty_ret_i (pc := 111) (ks := []) (ty := .boolean) (by decide +kernel) rfl (ty_fit_z (by omega)) ?_
        unfold pt_t
        rw [if_neg (not_not_intro e1), if_pos e2]
        exact ⟨0, rfl, rfl, _, _, _, rfl, pt_leaf.1, fun w => absurd (show false = true from w) (by decide)⟩
      · omega
  | succ m ih =>
    intro d hm p l ar g h0 h1
    refine ty_enter (ml := 4) (ls := [_, _, _, _]) rfl rfl (Nat.le_of_ble_eq_true rfl) ?_
    refine cr_term_pre (d + 2 + 2 * m) hR ⟨h0, h1⟩ rfl rfl ?_ ?_ ?_
    · intro e1
      unfold pt_t
      rw [if_pos e1]
      exact ⟨0, rfl, rfl, l, ar, g, rfl, pt_fr.refl, fun w => absurd (show false = true from w) (by decide)⟩
    · intro e1 e2
      unfold pt_t
      rw [if_neg (not_not_intro e1), if_neg e2]
      exact ⟨1, rfl, rfl, _, _, _, rfl, pt_leaf.1, fun _ => pt_leaf.2⟩
    · intro e1 e2
      have hl2 : p + 1 < n := by
        by_cases z : n ≤ p + 1
        · have := cr_h_n (S := S) z
          omega
        · omega
      have hargs : ty_C L xs (d + 2 + 2 * m + 1) 26 [.inr (.inr (some (16, 0))), .inl (ty_J (48 * x + p)), .inl (ty_J (6 - (m : Int)))] (cr_s S (p + 1) (mo_up l (48 * x + p) (cr_h S n p)) (mo_up ar (48 * x + p) 0) g) (cr_tp S n x p l ar g (pt_t (cr_h S n) (m + 1) p)) := by
        have hS : ty_st (cr_s S (p + 1) (mo_up l (48 * x + p) (cr_h S n p)) (mo_up ar (48 * x + p) 0) g) := hR.1
        have e1' := cr_s_at (S := S) (p := p + 1) (l := mo_up l (48 * x + p) (cr_h S n p)) (ar := mo_up ar (48 * x + p) 0) (g := g)
        refine ty_enter (ml := 4) (ls := [_, _, _, _]) rfl rfl (Nat.le_of_ble_eq_true rfl) ?_
        refine ty_aload_n (pc := 0) (i := 0) (ks := []) (by decide +kernel) rfl ?_
        refine ty_dup (pc := 1) (ks := []) (by decide +kernel) rfl ?_
        refine ty_getI (pc := 2) (idx := 15) (ci := 4) (f := 3) (by decide +kernel) (by first | rfl | assumption) rfl (by first | exact hS.1 _ _ rfl | assumption) (fun v hv => ?_)
        subst hv
        refine ty_iconst (pc := 5) (n := 1) (ks := []) (by decide +kernel) ?_
        refine ty_iadd (pc := 6) (ks := []) (by decide +kernel) ?_
        refine ty_putI (pc := 7) (idx := 15) (ci := 4) (f := 3) (by decide +kernel) (by first | rfl | assumption) rfl rfl (by first | exact hS.1 _ _ rfl | assumption) ?_
        refine ty_iconst (pc := 10) (n := 0) (ks := []) (by decide +kernel) ?_
        refine ty_istore_n (pc := 11) (i := 3) (ks := []) (ls' := [_, _, _, _]) (by decide +kernel) rfl ?_
        -- at 12: .iload_n 3
        rw [e1', cr_s_p]
        have hspec := pt_a_spec (h := cr_h S n) (n := n) (fun p hp => cr_h_n hp) (pt_t_spec (h := cr_h S n) (fun p hp => cr_h_n hp) m) 3 (p + 2) (by omega) (by omega)
        have := cr_args (L := L) (xs := xs) (d + 2 * m) hR m (by omega) (fun p l ar g h0 h1 => (ih d (by omega) p l ar g h0 h1).deeper (by omega)) (q0 := p) h0 3 0 (p + 2) (mo_up l (48 * x + p) (cr_h S n p)) (mo_up ar (48 * x + p) 0) g rfl (by omega) (by omega)
        rw [show p + 1 + 1 = p + 2 by omega, show d + 2 + 2 * m = d + 2 * m + 2 by omega]
        refine this.mono ?_
        rintro o S' ⟨z, rfl, hz, l', a', g', rfl, hf, hat⟩
        have eq : pt_t (cr_h S n) (m + 1) p = ((pt_a (cr_h S n) (pt_t (cr_h S n) m) 3 (p + 2)).1, (pt_a (cr_h S n) (pt_t (cr_h S n) m) 3 (p + 2)).2.1, (p, (pt_a (cr_h S n) (pt_t (cr_h S n) m) 3 (p + 2)).2.2.1) :: (pt_a (cr_h S n) (pt_t (cr_h S n) m) 3 (p + 2)).2.2.2) := by
          unfold pt_t
          rw [if_neg (not_not_intro e1), if_pos e2]
        rw [eq]
        generalize pt_a (cr_h S n) (pt_t (cr_h S n) m) 3 (p + 2) = R at hz hf hat hspec
        obtain ⟨ok, p', as, N⟩ := R
        simp only at hz hf hat hspec ⊢
        refine ⟨z, rfl, hz, l', a', g', rfl, ⟨fun i hi => ?_, fun i hi => ?_⟩, fun w => ?_⟩
        · have hi : ¬ (48 * (x : Int) + p ≤ i ∧ i < 48 * x + p') := hi
          obtain ⟨y1, y2⟩ := hf.1 i (by omega)
          exact ⟨y1.trans (if_neg (by omega)), (y2 (by omega)).trans (if_neg (by omega))⟩
        · have hi : ¬ (3 * (48 * (x : Int) + p) ≤ i ∧ i < 3 * (48 * x + p')) := hi
          exact hf.2 i (by omega) (by omega)
        · obtain ⟨y1, y2, y3, y4⟩ := hat w
          intro q as' hm
          rcases List.mem_cons.mp hm with y | y
          · cases y
            refine ⟨(hf.1 _ (by omega)).1.trans (if_pos rfl), by rw [y2]; omega, fun k b hk => ?_⟩
            have := y3 k b hk
            rw [show (48 * (x : Int) + p) * 3 + ((0 : Nat) : Int) + (k : Int) = (48 * x + p) * 3 + k by omega] at this
            exact this
          · exact y1 q as' y
      have hS : ty_st (cr_s S (p + 1) (mo_up l (48 * x + p) (cr_h S n p)) (mo_up ar (48 * x + p) 0) g) := hR.1
      refine ty_iload_n (pc := 89) (i := 1) (ks := []) (by decide +kernel) rfl ?_
      refine ty_bipush (pc := 90) (n := 6) (ks := []) (by decide +kernel) (by omega) ?_
      -- at 92: .if_icmp .ge 18
      refine ty_icmp_ge (pc := 92) (off := 18) (t := 110) (ks := []) (by decide +kernel) (by omega) (by omega) (fun hc => ?_) (fun hc => ?_)
      · omega
      · clear hc
        refine ty_aload_n (pc := 95) (i := 0) (ks := []) (by decide +kernel) rfl ?_
        refine ty_iload_n (pc := 96) (i := 3) (ks := []) (by decide +kernel) rfl ?_
        refine ty_iload_n (pc := 97) (i := 1) (ks := []) (by decide +kernel) rfl ?_
        refine ty_iconst (pc := 98) (n := 1) (ks := []) (by decide +kernel) ?_
        refine ty_iadd (pc := 99) (ks := []) (by decide +kernel) ?_
        -- at 100: .invokevirtual 86
        rw [show (6 - ((m + 1 : Nat) : Int)) + 1 = 6 - (m : Int) by omega]
        refine ty_callv (pc := 100) (idx := 86) (m := 26) (n := 3) (c := 4) (vs := [_, _]) (r := []) (by decide +kernel) rfl rfl (Nat.le_of_ble_eq_true rfl) (by first | rfl | assumption) (by first | exact hS.1 _ _ rfl | assumption) hargs ?_
        rintro _ S1 ⟨z, rfl, hz, hrest⟩
        refine ty_KI ?_
        have hzr : 0 ≤ z ∧ z ≤ 1 := by rw [hz]; split <;> omega
        have hS : ty_st S1 := by obtain ⟨l', a', g', rfl, -⟩ := hrest; exact hR.1
        refine ty_if_eq (pc := 103) (off := 7) (t := 110) (ks := []) (by decide +kernel) (by omega) (fun hc => ?_) (fun hc => ?_)
        · refine ty_iconst (pc := 110) (n := 0) (ks := []) (by decide +kernel) ?_
          -- at 111: .ireturn
          refine ty_ret_i (pc := 111) (ks := []) (ty := .boolean) (by decide +kernel) rfl (ty_fit_z (by omega)) ?_
          exact ⟨0, rfl, by rw [← hz, hc], hrest⟩
        · refine ty_iconst (pc := 106) (n := 1) (ks := []) (by decide +kernel) ?_
          refine ty_goto (pc := 107) (off := 4) (t := 111) (ks := []) (by decide +kernel) ?_
          -- at 111: .ireturn
          refine ty_ret_i (pc := 111) (ks := []) (ty := .boolean) (by decide +kernel) rfl (ty_fit_z (by omega)) ?_
          exact ⟨1, rfl, by rw [← hz]; omega, hrest⟩
end CRD
