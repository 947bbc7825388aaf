/-! The class reads all goals. -/
/-- the goals from k on -/
def pt_ga (x : Nat) (k : Int) (sg lf rt : Int → Int) (gs : List (Int × Int × Int)) : Prop := ∀ (j : Nat) (g0 : Int × Int × Int), gs[j]? = some g0 → sg (k + j) = (pt_abs x g0).1 ∧ lf (k + j) = (pt_abs x g0).2.1 ∧ rt (k + j) = (pt_abs x g0).2.2
/-- what readGoals comes to -/
def cr_gsp (S : ty_S) (n : Int) (a : ai_A) (x : Nat) (k : Int) (sg lf rt : Int → Int) (p : Int) (l ar g : Int → Int) (R : Bool × Int × List (Int × Int × Int) × pt_N) : ai_O → ty_S → Prop := ty_oI fun z S' => z = (if R.1 = true then 1 else 0) ∧ ∃ k' sg' lf' rt' l' ar' g', S' = cr_s (cr_b S a x k' sg' lf' rt') R.2.1 l' ar' g' ∧ pt_fr x p R.2.1 l ar g l' ar' g' ∧ (∀ j, j < k → sg' j = sg j ∧ lf' j = lf j ∧ rt' j = rt j) ∧ (R.1 = true → k' = k + R.2.2.1.length ∧ pt_ga x k sg' lf' rt' R.2.2.1 ∧ pt_at (cr_h S n) x l' ar' g' R.2.2.2)
section CRI
variable {L : Nat} {xs : Nat → Int32} {S : ty_S} {n : Int} {a : ai_A} {x : Nat}
theorem cr_readGoals_loop (d : Nat) (hR : cr_R S n a x) (hnz : ∀ i, 0 ≤ i → i < n → S.2.2.1 (10, 0) i ≠ 0) : ∀ (m : Nat) (k : Nat) (p : Int) (sg lf rt l ar g : Int → Int), k + m = 24 → 0 ≤ p → p ≤ n →
    ty_W L xs (d + 13) 28 2 [some (.inr (.inr (some (16, 0)))), some (.inl (ty_J k))] [] (cr_s (cr_b S a x k sg lf rt) p l ar g) (cr_gsp S n a x k sg lf rt p l ar g (pt_gs (cr_h S n) m p)) := by
  have hnn : ∀ p, n ≤ p → cr_h S n p = 0 := fun p hp => cr_h_n hp
  intro m
  induction m with
  | zero =>
    intro k p sg lf rt l ar g hk h0 h1
    have hS : ty_st (cr_s (cr_b S a x k sg lf rt) p l ar g) := hR.1
    refine ty_iload_n (pc := 2) (i := 1) (ks := []) (by decide +kernel) rfl ?_
    refine ty_bipush (pc := 3) (n := 24) (ks := []) (by decide +kernel) (by omega) ?_
    -- at 5: .if_icmp .ge 42
    refine ty_icmp_ge (pc := 5) (off := 42) (t := 47) (ks := []) (by decide +kernel) (by omega) (by omega) (fun hc => ?_) (fun hc => ?_)
    · refine ty_iconst (pc := 47) (n := 0) (ks := []) (by decide +kernel) ?_
      -- at 48: .ireturn
      refine ty_ret_i (pc := 48) (ks := []) (ty := .boolean) (by decide +kernel) rfl (ty_fit_z (by omega)) ?_
      exact ⟨0, rfl, rfl, k, sg, lf, rt, l, ar, g, rfl, pt_fr.refl, fun _ _ => ⟨rfl, rfl, rfl⟩, fun w => absurd (show false = true from w) (by decide)⟩
    · omega
  | succ m ih =>
    intro k p sg lf rt l ar g hk h0 h1
    have hS : ty_st (cr_s (cr_b S a x k sg lf rt) p l ar g) := hR.1
    refine ty_iload_n (pc := 2) (i := 1) (ks := []) (by decide +kernel) rfl ?_
    refine ty_bipush (pc := 3) (n := 24) (ks := []) (by decide +kernel) (by omega) ?_
    -- at 5: .if_icmp .ge 42
    refine ty_icmp_ge (pc := 5) (off := 42) (t := 47) (ks := []) (by decide +kernel) (by omega) (by omega) (fun hc => ?_) (fun hc => ?_)
    · omega
    clear hc
    refine ty_aload_n (pc := 8) (i := 0) (ks := []) (by decide +kernel) rfl ?_
    -- at 9: .invokevirtual 61
    refine ty_callv (pc := 9) (idx := 61) (m := 29) (n := 1) (c := 4) (vs := []) (r := []) (by decide +kernel) rfl rfl (Nat.le_of_ble_eq_true rfl) (by first | rfl | assumption) (by first | exact hS.1 _ _ rfl | assumption) (cr_goal d hR hnz (k := k) (sg := sg) (lf := lf) (rt := rt) (l := l) (ar := ar) (g := g) ⟨h0, h1⟩ ⟨by omega, by omega⟩) ?_
    rintro _ S1 ⟨z, rfl, hz, l1, a1, g1, hS1, hf1, hat1⟩
    refine ty_KI ?_
    obtain ⟨k1, k2, k3⟩ := pt_g_spec hnn h0 h1
    have step : pt_gs (cr_h S n) (m + 1) p = if (pt_g (cr_h S n) p).1 = false then (false, (pt_g (cr_h S n) p).2.1, [], (pt_g (cr_h S n) p).2.2.2)
      else if (cr_h S n) (pt_g (cr_h S n) p).2.1 = 0 then (true, (pt_g (cr_h S n) p).2.1, [(pt_g (cr_h S n) p).2.2.1], (pt_g (cr_h S n) p).2.2.2)
      else if (cr_h S n) (pt_g (cr_h S n) p).2.1 ≠ 44 then (false, (pt_g (cr_h S n) p).2.1, [], (pt_g (cr_h S n) p).2.2.2)
      else ((pt_gs (cr_h S n) m ((pt_g (cr_h S n) p).2.1 + 1)).1, (pt_gs (cr_h S n) m ((pt_g (cr_h S n) p).2.1 + 1)).2.1, (pt_g (cr_h S n) p).2.2.1 :: (pt_gs (cr_h S n) m ((pt_g (cr_h S n) p).2.1 + 1)).2.2.1, (pt_g (cr_h S n) p).2.2.2 ++ (pt_gs (cr_h S n) m ((pt_g (cr_h S n) p).2.1 + 1)).2.2.2) := rfl
    rw [step]
    clear step
    generalize pt_g (cr_h S n) p = T at hz hS1 hf1 hat1 k1 k2 k3
    obtain ⟨ok, p1, g0, N1⟩ := T
    simp only at hz hS1 hf1 hat1 k1 k2 k3 ⊢
    cases ok with
    | false =>
      rw [if_neg (by decide)] at hz hS1
      subst hz hS1
      rw [if_pos rfl]
      refine ty_if_ne (pc := 12) (off := 5) (t := 17) (ks := []) (by decide +kernel) (by omega) (fun hc => ?_) (fun hc => ?_)
      · exact absurd rfl hc
      · have hS : ty_st (cr_s (cr_b S a x k sg lf rt) p1 l1 a1 g1) := hR.1
        refine ty_iconst (pc := 15) (n := 0) (ks := []) (by decide +kernel) ?_
        -- at 16: .ireturn
        refine ty_ret_i (pc := 16) (ks := []) (ty := .boolean) (by decide +kernel) rfl (ty_fit_z (by omega)) ?_
        exact ⟨0, rfl, rfl, k, sg, lf, rt, l1, a1, g1, rfl, hf1, fun _ _ => ⟨rfl, rfl, rfl⟩, fun w => absurd (show false = true from w) (by decide)⟩
    | true =>
      rw [if_pos rfl] at hz hS1
      subst hz hS1
      rw [if_neg (show ¬ (true = false) by decide)]
      obtain ⟨k4, k5, k6, k7⟩ := k3 rfl
      have hat1 := hat1 rfl
      have hp1 : 0 ≤ p1 ∧ p1 ≤ n := ⟨by omega, k2⟩
      have hz0 := cr_h_0 hnz hp1
      have hkeep : ∀ j : Int, j < k → mo_up sg k (pt_abs x g0).1 j = sg j ∧ mo_up lf k (pt_abs x g0).2.1 j = lf j ∧ mo_up rt k (pt_abs x g0).2.2 j = rt j := fun j hj => ⟨if_neg (by omega), if_neg (by omega), if_neg (by omega)⟩
      have hnew : mo_up sg k (pt_abs x g0).1 k = (pt_abs x g0).1 ∧ mo_up lf k (pt_abs x g0).2.1 k = (pt_abs x g0).2.1 ∧ mo_up rt k (pt_abs x g0).2.2 k = (pt_abs x g0).2.2 := ⟨if_pos rfl, if_pos rfl, if_pos rfl⟩
      generalize mo_up sg k (pt_abs x g0).1 = sg1 at hkeep hnew
      generalize mo_up lf k (pt_abs x g0).2.1 = lf1 at hkeep hnew
      generalize mo_up rt k (pt_abs x g0).2.2 = rt1 at hkeep hnew
      have hB := cr_b_R hR (k := (k : Int) + 1) (sg := sg1) (lf := lf1) (rt := rt1)
      have e1 : (cr_s (cr_b S a x ((k : Int) + 1) sg1 lf1 rt1) p1 l1 a1 g1).1 (16, 0) 3 = p1 := cr_s_at
      have e2 : (cr_s (cr_b S a x ((k : Int) + 1) sg1 lf1 rt1) p1 l1 a1 g1).1 (16, 0) 2 = n := (cr_s_I (by decide)).trans hB.2.2.1
      have hS : ty_st (cr_s (cr_b S a x ((k : Int) + 1) sg1 lf1 rt1) p1 l1 a1 g1) := hR.1
      have hn48 := hR.2.2.2.2.2.2.1
      refine ty_if_ne (pc := 12) (off := 5) (t := 17) (ks := []) (by decide +kernel) (by omega) (fun hc => ?_) (fun hc => ?_)
      · clear hc
        refine ty_aload_n (pc := 17) (i := 0) (ks := []) (by decide +kernel) rfl ?_
        refine ty_getI (pc := 18) (idx := 15) (ci := 4) (f := 3) (by decide +kernel) (by first | rfl | assumption) rfl (by first | exact hS.1 _ _ rfl | assumption) (fun v hv => ?_)
        subst hv
        refine ty_aload_n (pc := 21) (i := 0) (ks := []) (by decide +kernel) rfl ?_
        refine ty_getI (pc := 22) (idx := 9) (ci := 4) (f := 2) (by decide +kernel) (by first | rfl | assumption) rfl (by first | exact hS.1 _ _ rfl | assumption) (fun v hv => ?_)
        subst hv
        -- at 25: .if_icmp .ne 5
        rw [e1, e2]
        refine ty_icmp_ne (pc := 25) (off := 5) (t := 30) (ks := []) (by decide +kernel) (by omega) (by omega) (fun hc => ?_) (fun hc => ?_)
        · rw [if_neg (fun w => hc (hz0.mp w))]
          have hne := hc
          refine ty_aload_n (pc := 30) (i := 0) (ks := []) (by decide +kernel) rfl ?_
          refine ty_bipush (pc := 31) (n := 44) (ks := []) (by decide +kernel) (by omega) ?_
          -- at 33: .invokevirtual 38
          refine ty_callv (pc := 33) (idx := 38) (m := 27) (n := 2) (c := 4) (vs := [_]) (r := []) (by decide +kernel) rfl rfl (Nat.le_of_ble_eq_true rfl) (by first | rfl | assumption) (by first | exact hS.1 _ _ rfl | assumption) ((cr_skip (d + 12) hB hp1 (c := 44) (by decide)).deeper (by omega)) ?_
          rintro _ S2 ⟨z, rfl, ⟨rfl, hh, rfl⟩ | ⟨rfl, hh, rfl⟩⟩
          · refine ty_KI ?_
            have hh : cr_h S n p1 = 44 := hh
            rw [if_neg (fun w => w hh)]
            refine ty_if_ne (pc := 36) (off := 5) (t := 41) (ks := []) (by decide +kernel) (by omega) (fun hc => ?_) (fun hc => ?_)
            · clear hc
              refine ty_iinc (pc := 41) (i := 1) (n := 1) (ks := []) (ls' := [_, _]) (by decide +kernel) rfl rfl ?_
              refine ty_goto (pc := 44) (off := (-42)) (t := 2) (ks := []) (by decide +kernel) ?_
              -- at 2: .iload_n 1
              have := ih (k + 1) (p1 + 1) sg1 lf1 rt1 l1 a1 g1 (by omega) (by omega) (by omega)
              rw [show ((k + 1 : Nat) : Int) = (k : Int) + 1 by omega] at this
              refine this.mono ?_
              rintro o S3 ⟨z, rfl, hz, k', sg2, lf2, rt2, l2, a2, g2, rfl, hf2, hk2, hok⟩
              obtain ⟨s1, s2, s3, s4⟩ := pt_gs_spec hnn m (p1 + 1) (by omega) (by omega)
              generalize pt_gs (cr_h S n) m (p1 + 1) = T at hz hf2 hok s1 s2 s3 s4
              obtain ⟨ok, p2, gs, N2⟩ := T
              simp only at hz hf2 hok s1 s2 s3 s4 ⊢
              refine ⟨z, rfl, hz, k', sg2, lf2, rt2, l2, a2, g2, rfl, pt_fr.trans hf1 hf2 ⟨Int.le_refl _, by omega⟩ ⟨show p1 ≤ p2 by omega, Int.le_refl _⟩, fun j hj => ?_, fun w => ?_⟩
              · obtain ⟨y1, y2, y3⟩ := hk2 j (by omega)
                obtain ⟨u1, u2, u3⟩ := hkeep j hj
                exact ⟨y1.trans u1, y2.trans u2, y3.trans u3⟩
              · obtain ⟨w1, w2, w3⟩ := hok w
                refine ⟨by show k' = k + ((g0 :: gs).length : Int); rw [w1, List.length_cons]; omega, fun j q hj => ?_, fun q as hm => ?_⟩
                · cases j with
                  | zero =>
                    simp only [List.getElem?_cons_zero, Option.some.injEq] at hj
                    subst hj
                    obtain ⟨y1, y2, y3⟩ := hk2 k (by omega)
                    rw [show (k : Int) + ((0 : Nat) : Int) = k by omega]
                    exact ⟨y1.trans hnew.1, y2.trans hnew.2.1, y3.trans hnew.2.2⟩
                  | succ j =>
                    simp only [List.getElem?_cons_succ] at hj
                    rw [show (k : Int) + ((j + 1 : Nat) : Int) = (k : Int) + 1 + (j : Int) by omega]
                    exact w2 j q hj
                · rcases List.mem_append.mp hm with y | y
                  · exact pt_at_fr hat1 k5 hf2 (.inl (by omega)) q as y
                  · exact w3 q as y
            · exact absurd hc (by decide)
          · refine ty_KI ?_
            have hh : cr_h S n p1 ≠ 44 := hh
            rw [if_pos hh]
            refine ty_if_ne (pc := 36) (off := 5) (t := 41) (ks := []) (by decide +kernel) (by omega) (fun hc => ?_) (fun hc => ?_)
            · exact absurd rfl hc
            · refine ty_iconst (pc := 39) (n := 0) (ks := []) (by decide +kernel) ?_
              -- at 40: .ireturn
              refine ty_ret_i (pc := 40) (ks := []) (ty := .boolean) (by decide +kernel) rfl (ty_fit_z (by omega)) ?_
              exact ⟨0, rfl, rfl, _, _, _, _, _, _, _, rfl, hf1, hkeep, fun w => absurd (show false = true from w) (by decide)⟩
        · rw [if_pos (hz0.mpr hc)]
          refine ty_iconst (pc := 28) (n := 1) (ks := []) (by decide +kernel) ?_
          -- at 29: .ireturn
          refine ty_ret_i (pc := 29) (ks := []) (ty := .boolean) (by decide +kernel) rfl (ty_fit_z (by omega)) ?_
          refine ⟨1, rfl, rfl, _, _, _, _, _, _, _, rfl, hf1, hkeep, fun _ => ⟨by simp, fun j q hj => ?_, hat1⟩⟩
          cases j with
          | zero =>
            simp only [List.getElem?_cons_zero, Option.some.injEq] at hj
            subst hj
            rw [show (k : Int) + ((0 : Nat) : Int) = k by omega]
            exact hnew
          | succ j => simp at hj
      · exact absurd hc (by decide)
theorem cr_readGoals (d : Nat) (hR : cr_R S n a x) (hnz : ∀ i, 0 ≤ i → i < n → S.2.2.1 (10, 0) i ≠ 0) {p : Int} {sg lf rt l ar g : Int → Int} (hp : 0 ≤ p ∧ p ≤ n) :
    ty_C L xs (d + 14) 28 [.inr (.inr (some (16, 0)))] (cr_s (cr_b S a x 0 sg lf rt) p l ar g) (cr_gsp S n a x 0 sg lf rt p l ar g (pt_gs (cr_h S n) 24 p)) := by
  have hS : ty_st (cr_s (cr_b S a x 0 sg lf rt) p l ar g) := hR.1
  refine ty_enter (ml := 2) (ls := [_, _]) rfl rfl (Nat.le_of_ble_eq_true rfl) ?_
  refine ty_iconst (pc := 0) (n := 0) (ks := []) (by decide +kernel) ?_
  refine ty_istore_n (pc := 1) (i := 1) (ks := []) (ls' := [_, _]) (by decide +kernel) rfl ?_
  -- at 2: .iload_n 1
  exact cr_readGoals_loop d hR hnz 24 0 p sg lf rt l ar g rfl hp.1 hp.2
end CRI
