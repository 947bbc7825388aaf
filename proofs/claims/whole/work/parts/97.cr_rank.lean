/-! The class ranks variables. -/
def cr_k (S : ty_S) (x : Nat) (a : ai_A) (f : Int → Int) (v : Int) (R : Int → Int) : ty_S := ty_mA (ty_sI (ty_mA S (34, x) f) a 6 v) (22, 0) R
section CRK
variable {L : Nat} {xs : Nat → Int32} {S : ty_S} {n : Int} {a : ai_A} {x : Nat} {f R : Int → Int} {v : Int}
theorem cr_k_f {i w : Int} : ty_sA (cr_k S x a f v R) (34, x) i w = cr_k S x a (mo_up f i w) v R := by
  refine Prod.ext rfl (Prod.ext rfl (Prod.ext ?_ rfl))
  funext b j
  show (if b = (34, x) ∧ j = i then w else (if b = (22, 0) then R else if b = (34, x) then f else S.2.2.1 b) j) = (if b = (22, 0) then R else if b = (34, x) then mo_up f i w else S.2.2.1 b) j
  by_cases e : b = (34, x)
  · subst e
    simp [mo_up]
  · rw [if_neg (fun z => e z.1), if_neg e, if_neg e]
theorem cr_k_R {i w : Int} : ty_sA (cr_k S x a f v R) (22, 0) i w = cr_k S x a f v (mo_up R i w) := by
  refine Prod.ext rfl (Prod.ext rfl (Prod.ext ?_ rfl))
  funext b j
  show (if b = (22, 0) ∧ j = i then w else (if b = (22, 0) then R else if b = (34, x) then f else S.2.2.1 b) j) = (if b = (22, 0) then mo_up R i w else if b = (34, x) then f else S.2.2.1 b) j
  by_cases e : b = (22, 0)
  · subst e
    simp [mo_up]
  · rw [if_neg (fun z => e z.1), if_neg e, if_neg e]
theorem cr_k_v {w : Int} : ty_sI (cr_k S x a f v R) a 6 w = cr_k S x a f w R := by
  refine Prod.ext ?_ rfl
  funext b j
  show (if b = a ∧ j = 6 then w else if b = a ∧ j = 6 then v else S.1 b j) = if b = a ∧ j = 6 then w else S.1 b j
  split <;> rfl
theorem cr_k_self : cr_k S x a f (S.1 a 6) (S.2.2.1 (22, 0)) = ty_mA S (34, x) f := by
  refine Prod.ext ?_ (Prod.ext rfl (Prod.ext ?_ rfl))
  · funext b j
    show (if b = a ∧ j = 6 then S.1 a 6 else S.1 b j) = S.1 b j
    by_cases e : b = a ∧ j = 6
    · rw [if_pos e, e.1, e.2]
    · rw [if_neg e]
  · funext b
    show (if b = (22, 0) then S.2.2.1 (22, 0) else if b = (34, x) then f else S.2.2.1 b) = if b = (34, x) then f else S.2.2.1 b
    by_cases e : b = (22, 0)
    · subst e
      simp
    · rw [if_neg e]
theorem cr_k_A : (cr_k S x a f v R).2.2.1 (34, x) = f := by
  show (if ((34, x) : ai_A) = (22, 0) then R else if ((34, x) : ai_A) = (34, x) then f else S.2.2.1 (34, x)) = f
  simp
theorem cr_k_I {b : ai_A} {j : Nat} (h : ¬ (b = a ∧ j = 6)) : (cr_k S x a f v R).1 b j = S.1 b j := by
  show (if b = a ∧ j = 6 then v else S.1 b j) = S.1 b j
  exact if_neg h
theorem cr_k_V : (cr_k S x a f v R).1 a 6 = v := by
  show (if a = a ∧ 6 = 6 then v else S.1 a 6) = v
  exact if_pos ⟨rfl, rfl⟩
/-- what is known of all these states -/
theorem cr_k_facts (hR : cr_R S n a x) : ty_st (cr_k S x a f v R) ∧ (cr_k S x a f v R).2.1 (16, 0) 1 = some (10, 0) ∧ (cr_k S x a f v R).1 (16, 0) 2 = n ∧ (cr_k S x a f v R).2.1 (16, 0) 4 = some a ∧ (cr_k S x a f v R).1 a 0 = 48 * x ∧ (cr_k S x a f v R).2.2.1 (10, 0) = S.2.2.1 (10, 0) ∧ (cr_k S x a f v R).2.1 a 5 = some (34, x) ∧ ty_sk a.1 = (1, 3) ∧ a.2 < (cr_k S x a f v R).2.2.2.2.2.2.1 a.1 ∧ ((34, x) : ai_A).2 < (cr_k S x a f v R).2.2.2.2.2.2.1 ((34, x) : ai_A).1 ∧ (cr_k S x a f v R).2.2.2.2.2.1 (34, x) = 26 ∧ ty_sk ((34, x) : ai_A).1 = (2, 0) := by
  obtain ⟨r1, r2, r3, r4, r5, r6, r7, r8⟩ := hR
  have haR := cr_cl_ne r5
  obtain ⟨f1, f2, ⟨-, -, -, f6⟩, ⟨-, -, -, f10⟩, -, -, -, f14⟩ := cs_cl_facts r1 r5
  exact ⟨r1, r2, (cr_k_I (fun w => haR w.1.symm)).trans r3, r4, (cr_k_I (fun w => absurd w.2 (by decide))).trans r6, rfl, f6, f1, f2, f10, f14, by show ty_sk 34 = (2, 0); decide +kernel⟩
theorem cr_rankVariables (d : Nat) (hR : cr_R S n a x) {m : Nat} (hm : n = m) :
    ty_C L xs (d + 2) 31 [.inr (.inr (some (16, 0)))] S (ty_oV fun S' => ∃ f R, S' = cr_k S x a f (pv_k (cr_h S n) m 26) R ∧ (∀ u : Nat, u < 26 → f u = pv_r (cr_h S n) m u) ∧ (∀ j, ¬ (48 * (x : Int) ≤ j ∧ j < 48 * x + n) → R j = S.2.2.1 (22, 0) j) ∧ ∀ (i u : Nat), (i : Int) < n → u < 26 → cr_h S n i = 65 + u → R (48 * x + i) = pv_r (cr_h S n) m u) := by
  have hn48 := hR.2.2.2.2.2.2.1
  have hx12 := cr_cl_r hR.2.2.2.2.1
  have hch := hR.2.2.2.2.2.2.2
  have hh : ∀ i : Nat, (i : Int) < n → cr_h S n i = S.2.2.1 (10, 0) i := fun i hi => if_pos ⟨by omega, hi⟩
  -- the third loop
  have loop3 : ∀ (r i : Nat) (f R : Int → Int), i + r = m → (∀ u : Nat, u < 26 → f u = pv_r (cr_h S n) m u) → (∀ j, ¬ (48 * (x : Int) ≤ j ∧ j < 48 * x + n) → R j = S.2.2.1 (22, 0) j) → (∀ (q u : Nat), q < i → u < 26 → cr_h S n q = 65 + u → R (48 * x + q) = pv_r (cr_h S n) m u) →
      ty_W L xs (d + 1) 31 123 [some (.inr (.inr (some (16, 0)))), some (.inl (ty_J i))] [] (cr_k S x a f (pv_k (cr_h S n) m 26) R) (ty_oV fun S' => ∃ f R, S' = cr_k S x a f (pv_k (cr_h S n) m 26) R ∧ (∀ u : Nat, u < 26 → f u = pv_r (cr_h S n) m u) ∧ (∀ j, ¬ (48 * (x : Int) ≤ j ∧ j < 48 * x + n) → R j = S.2.2.1 (22, 0) j) ∧ ∀ (i u : Nat), (i : Int) < n → u < 26 → cr_h S n i = 65 + u → R (48 * x + i) = pv_r (cr_h S n) m u) := by
    intro r
    induction r with
    | zero =>
      intro i f R hi hf hR1 hR2
      obtain ⟨hS, t1, t2, t3, t4, t5, t6, t7, t8, t9, t10, t11⟩ := cr_k_facts (f := f) (v := pv_k (cr_h S n) m 26) (R := R) hR
      refine ty_iload_n (pc := 123) (i := 1) (ks := []) (by decide +kernel) rfl ?_
      refine ty_aload_n (pc := 124) (i := 0) (ks := []) (by decide +kernel) rfl ?_
      refine ty_getI (pc := 125) (idx := 9) (ci := 4) (f := 2) (by decide +kernel) (by first | rfl | assumption) rfl (by first | exact hS.1 _ _ rfl | assumption) (fun v hv => ?_)
      subst hv
      -- at 128: .if_icmp .ge 55
      rw [t2]
      refine ty_icmp_ge (pc := 128) (off := 55) (t := 183) (ks := []) (by decide +kernel) (by omega) (by omega) (fun hc => ?_) (fun hc => ?_)
      · refine ty_ret_v (pc := 183) (ks := []) (by decide +kernel) rfl ?_
        exact ⟨rfl, f, R, rfl, hf, hR1, fun q u hq => hR2 q u (by omega)⟩
      · omega
    | succ r ih =>
      intro i f R hi hf hR1 hR2
      obtain ⟨hS, t1, t2, t3, t4, t5, t6, t7, t8, t9, t10, t11⟩ := cr_k_facts (f := f) (v := pv_k (cr_h S n) m 26) (R := R) hR
      have hc0 := hch i (by omega) (by omega)
      have hA : (cr_k S x a f (pv_k (cr_h S n) m 26) R).2.2.1 (34, x) = f := cr_k_A
      have hset := fun j w => cr_k_R (S := S) (x := x) (a := a) (f := f) (v := pv_k (cr_h S n) m 26) (R := R) (i := j) (w := w)
      have hni : (i : Int) < n := by omega
      rw [← hh i hni] at hc0
      have t5' : (cr_k S x a f (pv_k (cr_h S n) m 26) R).2.2.1 (10, 0) i = cr_h S n i := by rw [t5, hh i hni]
      generalize hT : cr_k S x a f (pv_k (cr_h S n) m 26) R = T at hS t1 t2 t3 t4 t5 t6 t8 t9 t10 hA hset t5'
      refine ty_iload_n (pc := 123) (i := 1) (ks := []) (by decide +kernel) rfl ?_
      refine ty_aload_n (pc := 124) (i := 0) (ks := []) (by decide +kernel) rfl ?_
      refine ty_getI (pc := 125) (idx := 9) (ci := 4) (f := 2) (by decide +kernel) (by first | rfl | assumption) rfl (by first | exact hS.1 _ _ rfl | assumption) (fun v hv => ?_)
      subst hv
      -- at 128: .if_icmp .ge 55
      rw [t2]
      refine ty_icmp_ge (pc := 128) (off := 55) (t := 183) (ks := []) (by decide +kernel) (by omega) (by omega) (fun hc => ?_) (fun hc => ?_)
      · omega
      clear hc
      refine ty_aload_n (pc := 131) (i := 0) (ks := []) (by decide +kernel) rfl ?_
      first | refine ty_getS (pc := 132) (idx := 48) (ci := 4) (f := 1) (by decide +kernel) (by first | rfl | assumption) rfl (by first | exact hS.1 _ _ rfl | assumption) (by assumption) ?_ | (refine ty_getR (pc := 132) (idx := 48) (ci := 4) (f := 1) (by decide +kernel) (by first | rfl | assumption) rfl (by first | exact hS.1 _ _ rfl | assumption) (fun v hv => ?_); (subst hv))
      refine ty_iload_n (pc := 135) (i := 1) (ks := []) (by decide +kernel) rfl ?_
      refine ty_caload (pc := 136) (ks := []) (by decide +kernel) (by first | rfl | assumption) (by rfl) (by first | exact hS.1 _ _ rfl | assumption) (by first | exact hS.2.1 _ _ _ rfl | assumption) (by omega) (fun v hv => ?_)
      subst hv
      -- at 137: .invokestatic 71
      rw [t5']
      refine ty_calls (pc := 137) (idx := 71) (m := 24) (n := 1) (c := 0) (av := [_]) (r := []) (by decide +kernel) rfl rfl (Nat.le_of_ble_eq_true rfl) (ct_isVariable _ hc0) ?_
      rintro _ S1 ⟨z, rfl, hz, rfl⟩
      refine ty_KI ?_
      have hzr : 0 ≤ z ∧ z ≤ 1 := by rw [hz]; split <;> omega
      refine ty_if_eq (pc := 140) (off := 37) (t := 177) (ks := []) (by decide +kernel) (by omega) (fun hc => ?_) (fun hc => ?_)
      · refine ty_iinc (pc := 177) (i := 1) (n := 1) (ks := []) (ls' := [_, _]) (by decide +kernel) rfl rfl ?_
        refine ty_goto (pc := 180) (off := (-57)) (t := 123) (ks := []) (by decide +kernel) ?_
        -- at 123: .iload_n 1
        rw [← hT]
        have := ih (i + 1) f R (by omega) hf hR1 (fun q u hq hu hqu => by
          by_cases e : q = i
          · subst e
            rw [if_pos (by omega)] at hz
            omega
          · exact hR2 q u (by omega) hu hqu)
        rw [show ((i + 1 : Nat) : Int) = (i : Int) + 1 by omega] at this
        exact this
      · have hv : 65 ≤ cr_h S n i ∧ cr_h S n i ≤ 90 := by
          by_cases e : 65 ≤ cr_h S n i ∧ cr_h S n i ≤ 90
          · exact e
          · rw [if_neg e] at hz
            exact absurd hz hc
        clear hc
        obtain ⟨u, hu⟩ : ∃ u : Nat, cr_h S n i = 65 + u := ⟨(cr_h S n i - 65).toNat, by omega⟩
        have hu26 : u < 26 := by omega
        refine ty_aload_n (pc := 143) (i := 0) (ks := []) (by decide +kernel) rfl ?_
        refine ty_getS (b := (12, 0)) (pc := 144) (idx := 18) (ci := 4) (f := 0) (by decide +kernel) (by first | rfl | assumption) rfl (by first | exact hS.1 _ _ rfl | assumption) (by first | exact hS.2.2 _ _ _ _ rfl | assumption) ?_
        refine ty_getS (b := (22, 0)) (pc := 147) (idx := 105) (ci := 1) (f := 3) (by decide +kernel) (by first | rfl | assumption) rfl (by first | exact hS.1 _ _ rfl | assumption) (by first | exact hS.2.2 _ _ _ _ rfl | assumption) ?_
        refine ty_aload_n (pc := 150) (i := 0) (ks := []) (by decide +kernel) rfl ?_
        first | refine ty_getS (pc := 151) (idx := 52) (ci := 4) (f := 4) (by decide +kernel) (by first | rfl | assumption) rfl (by first | exact hS.1 _ _ rfl | assumption) (by assumption) ?_ | (refine ty_getR (pc := 151) (idx := 52) (ci := 4) (f := 4) (by decide +kernel) (by first | rfl | assumption) rfl (by first | exact hS.1 _ _ rfl | assumption) (fun v hv => ?_); (subst hv))
        refine ty_getI (pc := 154) (idx := 68) (ci := 3) (f := 0) (by decide +kernel) (by first | rfl | assumption) rfl (by first | exact hS.1 _ _ rfl | assumption) (fun v hv => ?_)
        subst hv
        refine ty_iload_n (pc := 157) (i := 1) (ks := []) (by decide +kernel) rfl ?_
        refine ty_iadd (pc := 158) (ks := []) (by decide +kernel) ?_
        refine ty_aload_n (pc := 159) (i := 0) (ks := []) (by decide +kernel) rfl ?_
        first | refine ty_getS (pc := 160) (idx := 52) (ci := 4) (f := 4) (by decide +kernel) (by first | rfl | assumption) rfl (by first | exact hS.1 _ _ rfl | assumption) (by assumption) ?_ | (refine ty_getR (pc := 160) (idx := 52) (ci := 4) (f := 4) (by decide +kernel) (by first | rfl | assumption) rfl (by first | exact hS.1 _ _ rfl | assumption) (fun v hv => ?_); (subst hv))
        refine ty_getS (pc := 163) (idx := 93) (ci := 3) (f := 5) (by decide +kernel) (by first | rfl | assumption) rfl (by first | exact hS.1 _ _ rfl | assumption) (by first | exact hS.2.2 _ _ _ _ rfl | assumption) ?_
        refine ty_aload_n (pc := 166) (i := 0) (ks := []) (by decide +kernel) rfl ?_
        first | refine ty_getS (pc := 167) (idx := 48) (ci := 4) (f := 1) (by decide +kernel) (by first | rfl | assumption) rfl (by first | exact hS.1 _ _ rfl | assumption) (by assumption) ?_ | (refine ty_getR (pc := 167) (idx := 48) (ci := 4) (f := 1) (by decide +kernel) (by first | rfl | assumption) rfl (by first | exact hS.1 _ _ rfl | assumption) (fun v hv => ?_); (subst hv))
        refine ty_iload_n (pc := 170) (i := 1) (ks := []) (by decide +kernel) rfl ?_
        refine ty_caload (pc := 171) (ks := []) (by decide +kernel) (by first | rfl | assumption) (by rfl) (by first | exact hS.1 _ _ rfl | assumption) (by first | exact hS.2.1 _ _ _ rfl | assumption) (by omega) (fun v hv => ?_)
        subst hv
        refine ty_bipush (pc := 172) (n := 65) (ks := []) (by decide +kernel) (by omega) ?_
        refine ty_isub (pc := 174) (ks := []) (by decide +kernel) ?_
        -- at 175: .iaload
        rw [t4, t5', hu, show (65 : Int) + (u : Int) - 65 = u by omega]
        refine ty_iaload (pc := 175) (ks := []) (by decide +kernel) t11 (by rfl) t9 t10 (by omega) (fun w hw => ?_)
        rw [hA, hf u hu26] at hw
        subst hw
        refine ty_iastore (pc := 176) (ks := []) (by decide +kernel) (by first | rfl | assumption) (by rfl) (by first | exact hS.1 _ _ rfl | assumption) (by first | exact hS.2.1 _ _ _ rfl | assumption) (by omega) ?_
        refine ty_iinc (pc := 177) (i := 1) (n := 1) (ks := []) (ls' := [_, _]) (by decide +kernel) rfl rfl ?_
        refine ty_goto (pc := 180) (off := (-57)) (t := 123) (ks := []) (by decide +kernel) ?_
        -- at 123: .iload_n 1
        rw [hset]
        have := ih (i + 1) f (mo_up R (48 * x + i) (pv_r (cr_h S n) m u)) (by omega) hf (fun j hj => by
          rw [← hR1 j hj]
          exact if_neg (by omega)) (fun q u' hq hu' hqu => by
          by_cases e : q = i
          · subst e
            have : u' = u := by omega
            subst this
            exact if_pos rfl
          · rw [← hR2 q u' (by omega) hu' hqu]
            exact if_neg (by omega))
        rw [show ((i + 1 : Nat) : Int) = (i : Int) + 1 by omega] at this
        exact this
  -- the second loop
  have loop2 : ∀ (r u : Nat) (f : Int → Int), u + r = 26 → (∀ w : Nat, w < u → f w = pv_r (cr_h S n) m w) → (∀ w : Nat, u ≤ w → w < 26 → f w = if pv_oc (cr_h S n) m w = true then 0 else -1) →
      ty_W L xs (d + 1) 31 67 [some (.inr (.inr (some (16, 0)))), some (.inl (ty_J u))] [] (cr_k S x a f (pv_k (cr_h S n) m u) (S.2.2.1 (22, 0))) (ty_oV fun S' => ∃ f R, S' = cr_k S x a f (pv_k (cr_h S n) m 26) R ∧ (∀ u : Nat, u < 26 → f u = pv_r (cr_h S n) m u) ∧ (∀ j, ¬ (48 * (x : Int) ≤ j ∧ j < 48 * x + n) → R j = S.2.2.1 (22, 0) j) ∧ ∀ (i u : Nat), (i : Int) < n → u < 26 → cr_h S n i = 65 + u → R (48 * x + i) = pv_r (cr_h S n) m u) := by
    intro r
    induction r with
    | zero =>
      intro u f hu h1 h2
      obtain ⟨hS, t1, t2, t3, t4, t5, t6, t7, t8, t9, t10, t11⟩ := cr_k_facts (f := f) (v := pv_k (cr_h S n) m u) (R := S.2.2.1 (22, 0)) hR
      refine ty_iload_n (pc := 67) (i := 1) (ks := []) (by decide +kernel) rfl ?_
      refine ty_bipush (pc := 68) (n := 26) (ks := []) (by decide +kernel) (by omega) ?_
      -- at 70: .if_icmp .ge 51
      refine ty_icmp_ge (pc := 70) (off := 51) (t := 121) (ks := []) (by decide +kernel) (by omega) (by omega) (fun hc => ?_) (fun hc => ?_)
      · refine ty_iconst (pc := 121) (n := 0) (ks := []) (by decide +kernel) ?_
        refine ty_istore_n (pc := 122) (i := 1) (ks := []) (ls' := [_, _]) (by decide +kernel) rfl ?_
        -- at 123: .iload_n 1
        have e : u = 26 := by omega
        subst e
        exact loop3 m 0 f _ (by omega) h1 (fun _ _ => rfl) (fun q u hq => by omega)
      · omega
    | succ r ih =>
      intro u f hu h1 h2
      obtain ⟨hS, t1, t2, t3, t4, t5, t6, t7, t8, t9, t10, t11⟩ := cr_k_facts (f := f) (v := pv_k (cr_h S n) m u) (R := S.2.2.1 (22, 0)) hR
      have hA : (cr_k S x a f (pv_k (cr_h S n) m u) (S.2.2.1 (22, 0))).2.2.1 (34, x) = f := cr_k_A
      have hV := cr_k_V (S := S) (x := x) (a := a) (f := f) (v := pv_k (cr_h S n) m u) (R := S.2.2.1 (22, 0))
      have hset : ty_sI (ty_sA (cr_k S x a f (pv_k (cr_h S n) m u) (S.2.2.1 (22, 0))) (34, x) u (pv_k (cr_h S n) m u)) a 6 (pv_k (cr_h S n) m u + 1) = cr_k S x a (mo_up f u (pv_k (cr_h S n) m u)) (pv_k (cr_h S n) m u + 1) (S.2.2.1 (22, 0)) := by rw [cr_k_f, cr_k_v]
      have hfu := h2 u (Nat.le_refl _) (by omega)
      have hkr := pv_k_r (h := cr_h S n) (n := m) u
      generalize hT : cr_k S x a f (pv_k (cr_h S n) m u) (S.2.2.1 (22, 0)) = T at hS t1 t2 t3 t4 t5 t6 t8 t9 t10 hA hV hset
      refine ty_iload_n (pc := 67) (i := 1) (ks := []) (by decide +kernel) rfl ?_
      refine ty_bipush (pc := 68) (n := 26) (ks := []) (by decide +kernel) (by omega) ?_
      -- at 70: .if_icmp .ge 51
      refine ty_icmp_ge (pc := 70) (off := 51) (t := 121) (ks := []) (by decide +kernel) (by omega) (by omega) (fun hc => ?_) (fun hc => ?_)
      · omega
      clear hc
      refine ty_aload_n (pc := 73) (i := 0) (ks := []) (by decide +kernel) rfl ?_
      first | refine ty_getS (pc := 74) (idx := 52) (ci := 4) (f := 4) (by decide +kernel) (by first | rfl | assumption) rfl (by first | exact hS.1 _ _ rfl | assumption) (by assumption) ?_ | (refine ty_getR (pc := 74) (idx := 52) (ci := 4) (f := 4) (by decide +kernel) (by first | rfl | assumption) rfl (by first | exact hS.1 _ _ rfl | assumption) (fun v hv => ?_); (subst hv))
      refine ty_getS (pc := 77) (idx := 93) (ci := 3) (f := 5) (by decide +kernel) (by first | rfl | assumption) rfl (by first | exact hS.1 _ _ rfl | assumption) (by first | exact hS.2.2 _ _ _ _ rfl | assumption) ?_
      refine ty_iload_n (pc := 80) (i := 1) (ks := []) (by decide +kernel) rfl ?_
      -- at 81: .iaload
      refine ty_iaload (pc := 81) (ks := []) (by decide +kernel) t11 (by rfl) t9 t10 (by omega) (fun w hw => ?_)
      rw [hA] at hw
      subst hw
      have hfr : -1 ≤ f u ∧ f u ≤ 0 := by rw [hfu]; split <;> omega
      refine ty_iconst (pc := 82) (n := (-1)) (ks := []) (by decide +kernel) ?_
      -- at 83: .if_icmp .eq 32
      refine ty_icmp_eq (pc := 83) (off := 32) (t := 115) (ks := []) (by decide +kernel) (by omega) (by omega) (fun hc => ?_) (fun hc => ?_)
      · have ho : ¬ pv_oc (cr_h S n) m u = true := fun z => by rw [if_pos z] at hfu; omega
        refine ty_iinc (pc := 115) (i := 1) (n := 1) (ks := []) (ls' := [_, _]) (by decide +kernel) rfl rfl ?_
        refine ty_goto (pc := 118) (off := (-51)) (t := 67) (ks := []) (by decide +kernel) ?_
        -- at 67: .iload_n 1
        rw [← hT]
        have e1 : pv_k (cr_h S n) m (u + 1) = pv_k (cr_h S n) m u := by
          show pv_k (cr_h S n) m u + (if pv_oc (cr_h S n) m u = true then 1 else 0) = _
          rw [if_neg ho]
          omega
        have := ih (u + 1) f (by omega) (fun w hw => by
          by_cases e : w = u
          · subst e
            unfold pv_r
            rw [if_neg ho]
            exact hc
          · exact h1 w (by omega)) (fun w hw hw2 => h2 w (by omega) hw2)
        rw [show ((u + 1 : Nat) : Int) = (u : Int) + 1 by omega, e1] at this
        exact this
      · have ho : pv_oc (cr_h S n) m u = true := by
          by_cases e : pv_oc (cr_h S n) m u = true
          · exact e
          · rw [if_neg e] at hfu
            exact absurd hfu hc
        clear hc
        refine ty_aload_n (pc := 86) (i := 0) (ks := []) (by decide +kernel) rfl ?_
        first | refine ty_getS (pc := 87) (idx := 52) (ci := 4) (f := 4) (by decide +kernel) (by first | rfl | assumption) rfl (by first | exact hS.1 _ _ rfl | assumption) (by assumption) ?_ | (refine ty_getR (pc := 87) (idx := 52) (ci := 4) (f := 4) (by decide +kernel) (by first | rfl | assumption) rfl (by first | exact hS.1 _ _ rfl | assumption) (fun v hv => ?_); (subst hv))
        refine ty_getS (pc := 90) (idx := 93) (ci := 3) (f := 5) (by decide +kernel) (by first | rfl | assumption) rfl (by first | exact hS.1 _ _ rfl | assumption) (by first | exact hS.2.2 _ _ _ _ rfl | assumption) ?_
        refine ty_iload_n (pc := 93) (i := 1) (ks := []) (by decide +kernel) rfl ?_
        refine ty_aload_n (pc := 94) (i := 0) (ks := []) (by decide +kernel) rfl ?_
        first | refine ty_getS (pc := 95) (idx := 52) (ci := 4) (f := 4) (by decide +kernel) (by first | rfl | assumption) rfl (by first | exact hS.1 _ _ rfl | assumption) (by assumption) ?_ | (refine ty_getR (pc := 95) (idx := 52) (ci := 4) (f := 4) (by decide +kernel) (by first | rfl | assumption) rfl (by first | exact hS.1 _ _ rfl | assumption) (fun v hv => ?_); (subst hv))
        refine ty_getI (pc := 98) (idx := 102) (ci := 3) (f := 6) (by decide +kernel) (by first | rfl | assumption) rfl (by first | exact hS.1 _ _ rfl | assumption) (fun v hv => ?_)
        subst hv
        -- at 101: .iastore
        rw [hV]
        refine ty_iastore (pc := 101) (ks := []) (by decide +kernel) (by first | rfl | assumption) (by rfl) (by first | exact hS.1 _ _ rfl | assumption) (by first | exact hS.2.1 _ _ _ rfl | assumption) (by omega) ?_
        -- at 102: .aload_n 0
        have hS2 : ty_st (ty_sA T (34, x) u (pv_k (cr_h S n) m u)) := hS
        have t32 : (ty_sA T (34, x) u (pv_k (cr_h S n) m u)).2.1 (16, 0) 4 = some a := t3
        have hV2 : (ty_sA T (34, x) u (pv_k (cr_h S n) m u)).1 a 6 = pv_k (cr_h S n) m u := hV
        have t82 : a.2 < (ty_sA T (34, x) u (pv_k (cr_h S n) m u)).2.2.2.2.2.2.1 a.1 := t8
        generalize hT2 : ty_sA T (34, x) u (pv_k (cr_h S n) m u) = T2 at hset hS2 t32 hV2 t82
        have hS := hS2
        refine ty_aload_n (pc := 102) (i := 0) (ks := []) (by decide +kernel) rfl ?_
        first | refine ty_getS (pc := 103) (idx := 52) (ci := 4) (f := 4) (by decide +kernel) (by first | rfl | assumption) rfl (by first | exact hS.1 _ _ rfl | assumption) (by assumption) ?_ | (refine ty_getR (pc := 103) (idx := 52) (ci := 4) (f := 4) (by decide +kernel) (by first | rfl | assumption) rfl (by first | exact hS.1 _ _ rfl | assumption) (fun v hv => ?_); (subst hv))
        refine ty_dup (pc := 106) (ks := []) (by decide +kernel) rfl ?_
        refine ty_getI (pc := 107) (idx := 102) (ci := 3) (f := 6) (by decide +kernel) (by first | rfl | assumption) rfl (by first | exact hS.1 _ _ rfl | assumption) (fun v hv => ?_)
        subst hv
        refine ty_iconst (pc := 110) (n := 1) (ks := []) (by decide +kernel) ?_
        refine ty_iadd (pc := 111) (ks := []) (by decide +kernel) ?_
        refine ty_putI (pc := 112) (idx := 102) (ci := 3) (f := 6) (by decide +kernel) (by first | rfl | assumption) rfl rfl (by first | exact hS.1 _ _ rfl | assumption) ?_
        refine ty_iinc (pc := 115) (i := 1) (n := 1) (ks := []) (ls' := [_, _]) (by decide +kernel) rfl rfl ?_
        refine ty_goto (pc := 118) (off := (-51)) (t := 67) (ks := []) (by decide +kernel) ?_
        -- at 67: .iload_n 1
        rw [hV2, hset]
        have e1 : pv_k (cr_h S n) m (u + 1) = pv_k (cr_h S n) m u + 1 := by
          show pv_k (cr_h S n) m u + (if pv_oc (cr_h S n) m u = true then 1 else 0) = _
          rw [if_pos ho]
        have := ih (u + 1) (mo_up f u (pv_k (cr_h S n) m u)) (by omega) (fun w hw => by
          by_cases e : w = u
          · subst e
            unfold pv_r
            rw [if_pos ho]
            exact if_pos rfl
          · rw [← h1 w (by omega)]
            exact if_neg (by omega)) (fun w hw hw2 => by
          rw [← h2 w (by omega) hw2]
          exact if_neg (by omega))
        rw [show ((u + 1 : Nat) : Int) = (u : Int) + 1 by omega, e1] at this
        exact this
  -- the first loop
  have loop1 : ∀ (r i : Nat) (f : Int → Int), i + r = m → (∀ w : Nat, w < 26 → f w = if pv_oc (cr_h S n) i w = true then 0 else -1) →
      ty_W L xs (d + 1) 31 13 [some (.inr (.inr (some (16, 0)))), some (.inl (ty_J i))] [] (cr_k S x a f (S.1 a 6) (S.2.2.1 (22, 0))) (ty_oV fun S' => ∃ f R, S' = cr_k S x a f (pv_k (cr_h S n) m 26) R ∧ (∀ u : Nat, u < 26 → f u = pv_r (cr_h S n) m u) ∧ (∀ j, ¬ (48 * (x : Int) ≤ j ∧ j < 48 * x + n) → R j = S.2.2.1 (22, 0) j) ∧ ∀ (i u : Nat), (i : Int) < n → u < 26 → cr_h S n i = 65 + u → R (48 * x + i) = pv_r (cr_h S n) m u) := by
    intro r
    induction r with
    | zero =>
      intro i f hi h1
      obtain ⟨hS, t1, t2, t3, t4, t5, t6, t7, t8, t9, t10, t11⟩ := cr_k_facts (f := f) (v := S.1 a 6) (R := S.2.2.1 (22, 0)) hR
      have e : i = m := by omega
      subst e
      refine ty_iload_n (pc := 13) (i := 1) (ks := []) (by decide +kernel) rfl ?_
      refine ty_aload_n (pc := 14) (i := 0) (ks := []) (by decide +kernel) rfl ?_
      refine ty_getI (pc := 15) (idx := 9) (ci := 4) (f := 2) (by decide +kernel) (by first | rfl | assumption) rfl (by first | exact hS.1 _ _ rfl | assumption) (fun v hv => ?_)
      subst hv
      -- at 18: .if_icmp .ge 39
      rw [t2]
      refine ty_icmp_ge (pc := 18) (off := 39) (t := 57) (ks := []) (by decide +kernel) (by omega) (by omega) (fun hc => ?_) (fun hc => ?_)
      · refine ty_aload_n (pc := 57) (i := 0) (ks := []) (by decide +kernel) rfl ?_
        first | refine ty_getS (pc := 58) (idx := 52) (ci := 4) (f := 4) (by decide +kernel) (by first | rfl | assumption) rfl (by first | exact hS.1 _ _ rfl | assumption) (by assumption) ?_ | (refine ty_getR (pc := 58) (idx := 52) (ci := 4) (f := 4) (by decide +kernel) (by first | rfl | assumption) rfl (by first | exact hS.1 _ _ rfl | assumption) (fun v hv => ?_); (subst hv))
        refine ty_iconst (pc := 61) (n := 0) (ks := []) (by decide +kernel) ?_
        refine ty_putI (pc := 62) (idx := 102) (ci := 3) (f := 6) (by decide +kernel) (by first | rfl | assumption) rfl rfl (by first | exact hS.1 _ _ rfl | assumption) ?_
        refine ty_iconst (pc := 65) (n := 0) (ks := []) (by decide +kernel) ?_
        refine ty_istore_n (pc := 66) (i := 1) (ks := []) (ls' := [_, _]) (by decide +kernel) rfl ?_
        -- at 67: .iload_n 1
        rw [cr_k_v]
        exact loop2 26 0 f rfl (fun w hw => by omega) (fun w _ hw => h1 w hw)
      · omega
    | succ r ih =>
      intro i f hi h1
      obtain ⟨hS, t1, t2, t3, t4, t5, t6, t7, t8, t9, t10, t11⟩ := cr_k_facts (f := f) (v := S.1 a 6) (R := S.2.2.1 (22, 0)) hR
      have hc0 := hch i (by omega) (by omega)
      have hset := fun j w => cr_k_f (S := S) (x := x) (a := a) (f := f) (v := S.1 a 6) (R := S.2.2.1 (22, 0)) (i := j) (w := w)
      have hni : (i : Int) < n := by omega
      rw [← hh i hni] at hc0
      have t5' : (cr_k S x a f (S.1 a 6) (S.2.2.1 (22, 0))).2.2.1 (10, 0) i = cr_h S n i := by rw [t5, hh i hni]
      have oc1 : ∀ w : Nat, pv_oc (cr_h S n) (i + 1) w = (pv_oc (cr_h S n) i w || decide (cr_h S n i = 65 + w)) := fun w => rfl
      generalize hT : cr_k S x a f (S.1 a 6) (S.2.2.1 (22, 0)) = T at hS t1 t2 t3 t4 t5 t6 t8 t9 t10 hset t5'
      refine ty_iload_n (pc := 13) (i := 1) (ks := []) (by decide +kernel) rfl ?_
      refine ty_aload_n (pc := 14) (i := 0) (ks := []) (by decide +kernel) rfl ?_
      refine ty_getI (pc := 15) (idx := 9) (ci := 4) (f := 2) (by decide +kernel) (by first | rfl | assumption) rfl (by first | exact hS.1 _ _ rfl | assumption) (fun v hv => ?_)
      subst hv
      -- at 18: .if_icmp .ge 39
      rw [t2]
      refine ty_icmp_ge (pc := 18) (off := 39) (t := 57) (ks := []) (by decide +kernel) (by omega) (by omega) (fun hc => ?_) (fun hc => ?_)
      · omega
      clear hc
      refine ty_aload_n (pc := 21) (i := 0) (ks := []) (by decide +kernel) rfl ?_
      first | refine ty_getS (pc := 22) (idx := 48) (ci := 4) (f := 1) (by decide +kernel) (by first | rfl | assumption) rfl (by first | exact hS.1 _ _ rfl | assumption) (by assumption) ?_ | (refine ty_getR (pc := 22) (idx := 48) (ci := 4) (f := 1) (by decide +kernel) (by first | rfl | assumption) rfl (by first | exact hS.1 _ _ rfl | assumption) (fun v hv => ?_); (subst hv))
      refine ty_iload_n (pc := 25) (i := 1) (ks := []) (by decide +kernel) rfl ?_
      refine ty_caload (pc := 26) (ks := []) (by decide +kernel) (by first | rfl | assumption) (by rfl) (by first | exact hS.1 _ _ rfl | assumption) (by first | exact hS.2.1 _ _ _ rfl | assumption) (by omega) (fun v hv => ?_)
      subst hv
      -- at 27: .invokestatic 71
      rw [t5']
      refine ty_calls (pc := 27) (idx := 71) (m := 24) (n := 1) (c := 0) (av := [_]) (r := []) (by decide +kernel) rfl rfl (Nat.le_of_ble_eq_true rfl) (ct_isVariable _ hc0) ?_
      rintro _ S1 ⟨z, rfl, hz, rfl⟩
      refine ty_KI ?_
      have hzr : 0 ≤ z ∧ z ≤ 1 := by rw [hz]; split <;> omega
      refine ty_if_eq (pc := 30) (off := 21) (t := 51) (ks := []) (by decide +kernel) (by omega) (fun hc => ?_) (fun hc => ?_)
      · refine ty_iinc (pc := 51) (i := 1) (n := 1) (ks := []) (ls' := [_, _]) (by decide +kernel) rfl rfl ?_
        refine ty_goto (pc := 54) (off := (-41)) (t := 13) (ks := []) (by decide +kernel) ?_
        -- at 13: .iload_n 1
        rw [← hT]
        have := ih (i + 1) f (by omega) (fun w hw => by
          rw [h1 w hw, oc1]
          have : ¬ cr_h S n i = 65 + w := fun y => by rw [if_pos (by omega)] at hz; omega
          rw [decide_eq_false this, Bool.or_false])
        rw [show ((i + 1 : Nat) : Int) = (i : Int) + 1 by omega] at this
        exact this
      · have hv : 65 ≤ cr_h S n i ∧ cr_h S n i ≤ 90 := by
          by_cases e : 65 ≤ cr_h S n i ∧ cr_h S n i ≤ 90
          · exact e
          · rw [if_neg e] at hz
            exact absurd hz hc
        clear hc
        obtain ⟨u, hu⟩ : ∃ u : Nat, cr_h S n i = 65 + u := ⟨(cr_h S n i - 65).toNat, by omega⟩
        have hu26 : u < 26 := by omega
        refine ty_aload_n (pc := 33) (i := 0) (ks := []) (by decide +kernel) rfl ?_
        first | refine ty_getS (pc := 34) (idx := 52) (ci := 4) (f := 4) (by decide +kernel) (by first | rfl | assumption) rfl (by first | exact hS.1 _ _ rfl | assumption) (by assumption) ?_ | (refine ty_getR (pc := 34) (idx := 52) (ci := 4) (f := 4) (by decide +kernel) (by first | rfl | assumption) rfl (by first | exact hS.1 _ _ rfl | assumption) (fun v hv => ?_); (subst hv))
        refine ty_getS (pc := 37) (idx := 93) (ci := 3) (f := 5) (by decide +kernel) (by first | rfl | assumption) rfl (by first | exact hS.1 _ _ rfl | assumption) (by first | exact hS.2.2 _ _ _ _ rfl | assumption) ?_
        refine ty_aload_n (pc := 40) (i := 0) (ks := []) (by decide +kernel) rfl ?_
        first | refine ty_getS (pc := 41) (idx := 48) (ci := 4) (f := 1) (by decide +kernel) (by first | rfl | assumption) rfl (by first | exact hS.1 _ _ rfl | assumption) (by assumption) ?_ | (refine ty_getR (pc := 41) (idx := 48) (ci := 4) (f := 1) (by decide +kernel) (by first | rfl | assumption) rfl (by first | exact hS.1 _ _ rfl | assumption) (fun v hv => ?_); (subst hv))
        refine ty_iload_n (pc := 44) (i := 1) (ks := []) (by decide +kernel) rfl ?_
        refine ty_caload (pc := 45) (ks := []) (by decide +kernel) (by first | rfl | assumption) (by rfl) (by first | exact hS.1 _ _ rfl | assumption) (by first | exact hS.2.1 _ _ _ rfl | assumption) (by omega) (fun v hv => ?_)
        subst hv
        refine ty_bipush (pc := 46) (n := 65) (ks := []) (by decide +kernel) (by omega) ?_
        refine ty_isub (pc := 48) (ks := []) (by decide +kernel) ?_
        refine ty_iconst (pc := 49) (n := 0) (ks := []) (by decide +kernel) ?_
        -- at 50: .iastore
        rw [t5', hu, show (65 : Int) + (u : Int) - 65 = u by omega]
        refine ty_iastore (pc := 50) (ks := []) (by decide +kernel) (by first | rfl | assumption) (by rfl) (by first | exact hS.1 _ _ rfl | assumption) (by first | exact hS.2.1 _ _ _ rfl | assumption) (by omega) ?_
        refine ty_iinc (pc := 51) (i := 1) (n := 1) (ks := []) (ls' := [_, _]) (by decide +kernel) rfl rfl ?_
        refine ty_goto (pc := 54) (off := (-41)) (t := 13) (ks := []) (by decide +kernel) ?_
        -- at 13: .iload_n 1
        rw [hset]
        have := ih (i + 1) (mo_up f u 0) (by omega) (fun w hw => by
          rw [oc1, hu]
          by_cases e : w = u
          · subst e
            rw [decide_eq_true rfl, Bool.or_true, if_pos rfl]
            exact if_pos rfl
          · rw [decide_eq_false (by omega), Bool.or_false, ← h1 w hw]
            exact if_neg (by omega))
        rw [show ((i + 1 : Nat) : Int) = (i : Int) + 1 by omega] at this
        exact this
  obtain ⟨r1, r2, r3, r4, r5, r6, r7, r8⟩ := hR
  obtain ⟨f1, f2, ⟨-, -, -, f6⟩, ⟨-, -, -, f10⟩, -, -, -, f14⟩ := cs_cl_facts r1 r5
  have s34 : ty_sk ((34, x) : ai_A).1 = (2, 0) := by show ty_sk 34 = (2, 0); decide +kernel
  have p34 : ((34, x) : ai_A).2 < S.2.2.2.2.2.2.1 ((34, x) : ai_A).1 := f10
  have hS := r1
  refine ty_enter (ml := 2) (ls := [_, _]) rfl rfl (Nat.le_of_ble_eq_true rfl) ?_
  refine ty_aload_n (pc := 0) (i := 0) (ks := []) (by decide +kernel) rfl ?_
  first | refine ty_getS (pc := 1) (idx := 52) (ci := 4) (f := 4) (by decide +kernel) (by first | rfl | assumption) rfl (by first | exact hS.1 _ _ rfl | assumption) (by assumption) ?_ | (refine ty_getR (pc := 1) (idx := 52) (ci := 4) (f := 4) (by decide +kernel) (by first | rfl | assumption) rfl (by first | exact hS.1 _ _ rfl | assumption) (fun v hv => ?_); (subst hv))
  refine ty_getS (pc := 4) (idx := 93) (ci := 3) (f := 5) (by decide +kernel) (by first | rfl | assumption) rfl (by first | exact hS.1 _ _ rfl | assumption) (by first | exact hS.2.2 _ _ _ _ rfl | assumption) ?_
  refine ty_iconst (pc := 7) (n := (-1)) (ks := []) (by decide +kernel) ?_
  -- at 8: .invokestatic 96
  refine ty_calls (pc := 8) (idx := 96) (m := 32) (n := 2) (c := 0) (av := [_, _]) (r := []) (by decide +kernel) rfl rfl (Nat.le_of_ble_eq_true rfl) (jd_fill (S := S) (n := 26) (x := -1) d s34 p34 f14 (by decide)) ?_
  rintro _ S1 ⟨rfl, rfl⟩
  refine ty_KV ?_
  rw [← cr_k_self (a := a)]
  refine ty_iconst (pc := 11) (n := 0) (ks := []) (by decide +kernel) ?_
  refine ty_istore_n (pc := 12) (i := 1) (ks := []) (ls' := [_, _]) (by decide +kernel) rfl ?_
  -- at 13: .iload_n 1
  exact loop1 m 0 _ (by omega) (fun w hw => by
    show _ = if false = true then (0 : Int) else -1
    rw [if_neg (show ¬ (false = true) by decide)]
    exact if_pos (by omega))
end CRK
