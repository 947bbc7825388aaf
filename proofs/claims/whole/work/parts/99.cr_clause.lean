/-! The class reads a clause. -/
section CRC
variable {L : Nat} {xs : Nat → Int32} {S : ty_S} {n : Int} {a : ai_A} {x : Nat}
theorem cr_readClause (d : Nat) (hS : ty_st S) (hx : cs_cl a x) (hst : S.1 a 0 = 48 * x) {m : Nat} (hnm : n = m) (hn : 0 ≤ n ∧ n ≤ 48) (hch : ∀ i, 0 ≤ i → i < 48 → 0 ≤ S.2.2.1 (10, 0) i ∧ S.2.2.1 (10, 0) i ≤ 65535) (hnz : ∀ i, 0 ≤ i → i < n → S.2.2.1 (10, 0) i ≠ 0) :
    ty_C L xs (d + 15) 19 [.inr (.inr (some (16, 0))), .inr (.inr (some (10, 0))), .inl (ty_J n), .inr (.inr (some a))] S (cr_P S (cr_h S n) n m a x (pt_c (cr_h S n))) := by
  have haR := cr_cl_ne hx
  refine ty_enter (ml := 4) (ls := [_, _, _, _]) rfl rfl (Nat.le_of_ble_eq_true rfl) ?_
  refine ty_aload_n (pc := 0) (i := 0) (ks := []) (by decide +kernel) rfl ?_
  refine ty_aload_n (pc := 1) (i := 1) (ks := []) (by decide +kernel) rfl ?_
  refine ty_iload_n (pc := 2) (i := 2) (ks := []) (by decide +kernel) rfl ?_
  refine ty_aload_n (pc := 3) (i := 3) (ks := []) (by decide +kernel) rfl ?_
  -- at 4: .invokevirtual 22
  refine ty_callv (pc := 4) (idx := 22) (m := 20) (n := 4) (c := 4) (vs := [_, _, _]) (r := []) (by decide +kernel) rfl rfl (Nat.le_of_ble_eq_true rfl) (by first | rfl | assumption) (by first | exact hS.1 _ _ rfl | assumption) ((cr_begin (n := n) (d + 13) hS hx).deeper (by omega)) ?_
  rintro _ T ⟨rfl, hT⟩
  refine ty_KV ?_
  obtain ⟨hR, e3, nI, nR, eT⟩ := cr_begun hS hx hst hn hch hT
  have hhT : cr_h T n = cr_h S n := by unfold cr_h; rw [e3]
  have hFT : cr_F S T a x := cr_F.begun hR.1 e3 nI nR
  have hnzT : ∀ i, 0 ≤ i → i < n → T.2.2.1 (10, 0) i ≠ 0 := by rw [e3]; exact hnz
  clear hT
  rw [← hhT]
  have hnn : ∀ p, n ≤ p → cr_h T n p = 0 := fun p hp => cr_h_n hp
  have hspec := pt_c_spec hnn hn.1
  -- all is read: rank
  have done : ∀ (p' : Int) (gs : List (Int × Int × Int)) (N : pt_N) (sg lf rt l ar g : Int → Int), pt_c (cr_h T n) = (true, p', gs, N) → pt_fr x 0 p' (T.2.2.1 (19, 0)) (T.2.2.1 (20, 0)) (T.2.2.1 (21, 0)) l ar g → pt_ga x 0 sg lf rt gs → pt_at (cr_h T n) x l ar g N →
      ty_W L xs (d + 14) 19 56 [some (.inr (.inr (some (16, 0)))), some (.inr (.inr (some (10, 0)))), some (.inl (ty_J n)), some (.inr (.inr (some a)))] [] (cr_s (cr_b T a x gs.length sg lf rt) p' l ar g) (cr_P S (cr_h T n) n m a x (pt_c (cr_h T n))) := by
    intro p' gs N sg lf rt l ar g hc hf w2 w3
    rw [hc] at hspec ⊢
    obtain ⟨s1, s2, s3, s4⟩ := hspec
    obtain ⟨v1, v2, v3, v4, v5, v6, v7⟩ := s4 rfl
    simp only at s1 s2 s3 v1 v2 v3 v4 v5 v6
    have hmid : cr_F T (cr_s (cr_b T a x gs.length sg lf rt) p' l ar g) a x := cr_mid haR hR.1 (by omega) hf
    have hRU : cr_R (cr_s (cr_b T a x gs.length sg lf rt) p' l ar g) n a x := by
      obtain ⟨r1, r2, r3, r4, r5, r6, r7, r8⟩ := cr_b_R hR (k := gs.length) (sg := sg) (lf := lf) (rt := rt)
      exact ⟨r1, r2, (cr_s_I (by decide)).trans r3, r4, r5, (cr_s_I (fun w => haR w.1)).trans r6, r7, r8⟩
    have hS := hRU.1
    refine ty_aload_n (pc := 56) (i := 0) (ks := []) (by decide +kernel) rfl ?_
    -- at 57: .invokevirtual 45
    refine ty_callv (pc := 57) (idx := 45) (m := 31) (n := 1) (c := 4) (vs := []) (r := []) (by decide +kernel) rfl rfl (Nat.le_of_ble_eq_true rfl) (by first | rfl | assumption) (by first | exact hS.1 _ _ rfl | assumption) ((cr_rankVariables (d + 12) hRU hnm).deeper (by omega)) ?_
    rintro _ S2 ⟨rfl, f, R, rfl, t1, t2, t3⟩
    refine ty_KV ?_
    have hh2 : cr_h (cr_s (cr_b T a x gs.length sg lf rt) p' l ar g) n = cr_h T n := rfl
    rw [hh2] at t1 t3 ⊢
    obtain ⟨u1, u2, u3⟩ := cr_done hR hnm (p := p') (by omega) s3 v5 w2 w3 t1 t2 t3
    have hS := u1.1
    refine ty_iconst (pc := 60) (n := 1) (ks := []) (by decide +kernel) ?_
    -- at 61: .ireturn
    refine ty_ret_i (pc := 61) (ks := []) (ty := .boolean) (by decide +kernel) rfl (ty_fit_z (by omega)) ?_
    exact ⟨1, rfl, rfl, (hFT.trans hmid).trans u1, u2, fun _ => u3⟩
  -- it fails
  have fail : ∀ (U : ty_S) (z1 z2 : Nat) (p' : Int) (gs : List (Int × Int × Int)) (N : pt_N), pt_c (cr_h T n) = (false, p', gs, N) → cr_F T U a x → U.1 (16, 0) 3 = p' → cr_P S (cr_h T n) n m a x (pt_c (cr_h T n)) (.inl (some (.inl (ty_J 0)))) U := by
    intro U _ _ p' gs N hc hf hat
    rw [hc]
    exact ⟨0, rfl, rfl, hFT.trans hf, hat, fun w => absurd (show false = true from w) (by decide)⟩
  have hB := cr_b_R hR (k := 0) (sg := T.2.2.1 (31, x)) (lf := T.2.2.1 (32, x)) (rt := T.2.2.1 (33, x))
  have hh := cr_here (L := L) (xs := xs) (d + 13) hB (p := 0) (l := T.2.2.1 (19, 0)) (ar := T.2.2.1 (20, 0)) (g := T.2.2.1 (21, 0)) ⟨Int.le_refl _, hn.1⟩
  have ht := cr_term (L := L) (xs := xs) hB 5 (d + 2) (Nat.le_refl _) 0 (T.2.2.1 (19, 0)) (T.2.2.1 (20, 0)) (T.2.2.1 (21, 0)) (Int.le_refl _) hn.1
  rw [eT] at hh ht
  have hhb : cr_h (cr_b T a x 0 (T.2.2.1 (31, x)) (T.2.2.1 (32, x)) (T.2.2.1 (33, x))) n = cr_h T n := rfl
  rw [hhb] at hh ht
  have hcr := cr_h_r hR (p := 0) (Int.le_refl _)
  have hat0 : T.1 (16, 0) 3 = 0 := by rw [← eT]; exact cr_s_at
  have hS := hR.1
  have hfr : cr_F T T a x := ⟨hR.1, rfl, fun _ _ _ _ => rfl, fun _ _ _ => rfl, fun _ _ _ _ _ _ _ _ _ => rfl, fun _ _ => ⟨rfl, rfl, rfl⟩, fun _ _ => rfl⟩
  refine ty_aload_n (pc := 7) (i := 0) (ks := []) (by decide +kernel) rfl ?_
  -- at 8: .invokevirtual 26
  refine ty_callv (pc := 8) (idx := 26) (m := 21) (n := 1) (c := 4) (vs := []) (r := []) (by decide +kernel) rfl rfl (Nat.le_of_ble_eq_true rfl) (by first | rfl | assumption) (by first | exact hS.1 _ _ rfl | assumption) (hh.deeper (by omega)) ?_
  rintro _ S1 ⟨c, rfl, rfl, rfl⟩
  refine ty_KI ?_
  refine ty_calls (pc := 11) (idx := 30) (m := 22) (n := 1) (c := 0) (av := [_]) (r := []) (by decide +kernel) rfl rfl (Nat.le_of_ble_eq_true rfl) ((ct_isSmall (d + 13) hcr).deeper (by omega)) ?_
  rintro _ S2 ⟨w, rfl, hw, rfl⟩
  refine ty_KI ?_
  have hwr : 0 ≤ w ∧ w ≤ 1 := by rw [hw]; split <;> omega
  refine ty_if_eq (pc := 14) (off := 11) (t := 25) (ks := []) (by decide +kernel) (by omega) (fun hc => ?_) (fun hc => ?_)
  · refine ty_iconst (pc := 25) (n := 0) (ks := []) (by decide +kernel) ?_
    -- at 26: .ireturn
    refine ty_ret_i (pc := 26) (ks := []) (ty := .boolean) (by decide +kernel) rfl (ty_fit_z (by omega)) ?_
    refine fail _ 0 0 0 [] [] ?_ hfr hat0
    unfold pt_c
    rw [if_pos (fun q => by rw [if_pos q] at hw; omega)]
  have hsm : 97 ≤ cr_h S2 n 0 ∧ cr_h S2 n 0 ≤ 122 := by
    by_cases q : 97 ≤ cr_h S2 n 0 ∧ cr_h S2 n 0 ≤ 122
    · exact q
    · rw [if_neg q] at hw
      exact absurd hw hc
  clear hc
  refine ty_aload_n (pc := 17) (i := 0) (ks := []) (by decide +kernel) rfl ?_
  refine ty_iconst (pc := 18) (n := 1) (ks := []) (by decide +kernel) ?_
  -- at 19: .invokevirtual 34
  refine ty_callv (pc := 19) (idx := 34) (m := 23) (n := 2) (c := 4) (vs := [_]) (r := []) (by decide +kernel) rfl rfl (Nat.le_of_ble_eq_true rfl) (by first | rfl | assumption) (by first | exact hS.1 _ _ rfl | assumption) (ht.deeper (by omega)) ?_
  rintro _ S3 ⟨z, rfl, hz, l1, a1, g1, rfl, hf1, hat1⟩
  refine ty_KI ?_
  obtain ⟨k1, k2, k3⟩ := pt_t_spec hnn 5 0 (Int.le_refl _) hn.1
  have eqc : pt_c (cr_h S2 n) = if (pt_t (cr_h S2 n) 5 0).1 = false then (false, (pt_t (cr_h S2 n) 5 0).2.1, [], (pt_t (cr_h S2 n) 5 0).2.2)
    else if (cr_h S2 n) (pt_t (cr_h S2 n) 5 0).2.1 = 0 then (true, (pt_t (cr_h S2 n) 5 0).2.1, [], (pt_t (cr_h S2 n) 5 0).2.2)
    else if (cr_h S2 n) (pt_t (cr_h S2 n) 5 0).2.1 ≠ 58 then (false, (pt_t (cr_h S2 n) 5 0).2.1, [], (pt_t (cr_h S2 n) 5 0).2.2)
    else ((pt_gs (cr_h S2 n) 24 ((pt_t (cr_h S2 n) 5 0).2.1 + 1)).1, (pt_gs (cr_h S2 n) 24 ((pt_t (cr_h S2 n) 5 0).2.1 + 1)).2.1, (pt_gs (cr_h S2 n) 24 ((pt_t (cr_h S2 n) 5 0).2.1 + 1)).2.2.1, (pt_t (cr_h S2 n) 5 0).2.2 ++ (pt_gs (cr_h S2 n) 24 ((pt_t (cr_h S2 n) 5 0).2.1 + 1)).2.2.2) := by
    unfold pt_c
    rw [if_neg (not_not_intro hsm)]
  have fail0 := fun U p' gs N => fail U 0 0 p' gs N
  clear fail
  rw [eqc] at done fail0
  clear hspec
  generalize pt_t (cr_h S2 n) 5 0 = Tt at hz hf1 hat1 k1 k2 k3 eqc done fail0
  obtain ⟨ok, p1, N1⟩ := Tt
  simp only at hz hf1 hat1 k1 k2 k3 eqc done fail0
  rw [eqc]
  have hmid1 : cr_F S2 (cr_s (cr_b S2 a x 0 (S2.2.2.1 (31, x)) (S2.2.2.1 (32, x)) (S2.2.2.1 (33, x))) p1 l1 a1 g1) a x := cr_mid haR hR.1 (by omega) hf1
  have hS : ty_st (cr_s (cr_b S2 a x 0 (S2.2.2.1 (31, x)) (S2.2.2.1 (32, x)) (S2.2.2.1 (33, x))) p1 l1 a1 g1) := hR.1
  cases ok with
  | false =>
    rw [if_neg (by decide)] at hz
    subst hz
    rw [if_pos rfl] at fail0 ⊢
    refine ty_if_ne (pc := 22) (off := 5) (t := 27) (ks := []) (by decide +kernel) (by omega) (fun hc => ?_) (fun hc => ?_)
    · exact absurd rfl hc
    · refine ty_iconst (pc := 25) (n := 0) (ks := []) (by decide +kernel) ?_
      -- at 26: .ireturn
      refine ty_ret_i (pc := 26) (ks := []) (ty := .boolean) (by decide +kernel) rfl (ty_fit_z (by omega)) ?_
      exact fail0 _ p1 [] N1 rfl hmid1 cr_s_at
  | true =>
    rw [if_pos rfl] at hz
    subst hz
    rw [if_neg (show ¬ (true = false) by decide)] at fail0 done ⊢
    obtain ⟨k4, k5, k6⟩ := k3 rfl
    have hat1 := hat1 rfl
    have hp1 : 0 ≤ p1 ∧ p1 ≤ n := ⟨by omega, k2⟩
    have hz0 := cr_h_0 hnzT hp1
    have e1 : (cr_s (cr_b S2 a x 0 (S2.2.2.1 (31, x)) (S2.2.2.1 (32, x)) (S2.2.2.1 (33, x))) p1 l1 a1 g1).1 (16, 0) 3 = p1 := cr_s_at
    have e2 : (cr_s (cr_b S2 a x 0 (S2.2.2.1 (31, x)) (S2.2.2.1 (32, x)) (S2.2.2.1 (33, x))) p1 l1 a1 g1).1 (16, 0) 2 = n := (cr_s_I (by decide)).trans hB.2.2.1
    refine ty_if_ne (pc := 22) (off := 5) (t := 27) (ks := []) (by decide +kernel) (by omega) (fun hc => ?_) (fun hc => ?_)
    · clear hc
      refine ty_aload_n (pc := 27) (i := 0) (ks := []) (by decide +kernel) rfl ?_
      refine ty_getI (pc := 28) (idx := 15) (ci := 4) (f := 3) (by decide +kernel) (by first | rfl | assumption) rfl (by first | exact hS.1 _ _ rfl | assumption) (fun v hv => ?_)
      subst hv
      refine ty_aload_n (pc := 31) (i := 0) (ks := []) (by decide +kernel) rfl ?_
      refine ty_getI (pc := 32) (idx := 9) (ci := 4) (f := 2) (by decide +kernel) (by first | rfl | assumption) rfl (by first | exact hS.1 _ _ rfl | assumption) (fun v hv => ?_)
      subst hv
      -- at 35: .if_icmp .ge 21
      rw [e1, e2]
      refine ty_icmp_ge (pc := 35) (off := 21) (t := 56) (ks := []) (by decide +kernel) (by omega) (by omega) (fun hc => ?_) (fun hc => ?_)
      · have hh0 : cr_h S2 n p1 = 0 := hz0.mpr (by omega)
        rw [if_pos hh0] at done ⊢
        exact done p1 [] N1 _ _ _ l1 a1 g1 rfl hf1 (fun j q hj => by simp at hj) hat1
      · have hh0 : cr_h S2 n p1 ≠ 0 := fun w => by have := hz0.mp w; omega
        rw [if_neg hh0] at done fail0 ⊢
        refine ty_aload_n (pc := 38) (i := 0) (ks := []) (by decide +kernel) rfl ?_
        refine ty_bipush (pc := 39) (n := 58) (ks := []) (by decide +kernel) (by omega) ?_
        -- at 41: .invokevirtual 38
        refine ty_callv (pc := 41) (idx := 38) (m := 27) (n := 2) (c := 4) (vs := [_]) (r := []) (by decide +kernel) rfl rfl (Nat.le_of_ble_eq_true rfl) (by first | rfl | assumption) (by first | exact hS.1 _ _ rfl | assumption) ((cr_skip (d + 13) hB hp1 (c := 58) (by decide)).deeper (by omega)) ?_
        rintro _ S4 ⟨z, rfl, ⟨rfl, hh, rfl⟩ | ⟨rfl, hh, rfl⟩⟩
        · refine ty_KI ?_
          have hh : cr_h S2 n p1 = 58 := hh
          rw [if_neg (fun w => w hh)] at done fail0 ⊢
          refine ty_if_eq (pc := 44) (off := 10) (t := 54) (ks := []) (by decide +kernel) (by omega) (fun hc => ?_) (fun hc => ?_)
          · exact absurd hc (by decide)
          · clear hc
            have hG := cr_readGoals (L := L) (xs := xs) d hR hnzT (p := p1 + 1) (sg := S2.2.2.1 (31, x)) (lf := S2.2.2.1 (32, x)) (rt := S2.2.2.1 (33, x)) (l := l1) (ar := a1) (g := g1) ⟨by omega, by omega⟩
            refine ty_aload_n (pc := 47) (i := 0) (ks := []) (by decide +kernel) rfl ?_
            -- at 48: .invokevirtual 41
            refine ty_callv (pc := 48) (idx := 41) (m := 28) (n := 1) (c := 4) (vs := []) (r := []) (by decide +kernel) rfl rfl (Nat.le_of_ble_eq_true rfl) (by first | rfl | assumption) (by first | exact hS.1 _ _ rfl | assumption) hG ?_
            rintro _ S5 ⟨z, rfl, hz, k', sg, lf, rt, l, ar, g, rfl, hf, -, hok⟩
            refine ty_KI ?_
            obtain ⟨s1, s2, s3, s4⟩ := pt_gs_spec hnn 24 (p1 + 1) (by omega) (by omega)
            generalize pt_gs (cr_h S2 n) 24 (p1 + 1) = Rr at hz hf hok s1 s2 s3 s4 done fail0
            obtain ⟨ok, p', gs, N⟩ := Rr
            simp only at hz hf hok s1 s2 s3 s4 done fail0 ⊢
            have hf2 : pt_fr x 0 p' (S2.2.2.1 (19, 0)) (S2.2.2.1 (20, 0)) (S2.2.2.1 (21, 0)) l ar g := pt_fr.trans hf1 hf ⟨Int.le_refl _, by omega⟩ ⟨by omega, Int.le_refl _⟩
            have hS : ty_st (cr_s (cr_b S2 a x k' sg lf rt) p' l ar g) := hR.1
            cases ok with
            | false =>
              rw [if_neg (by decide)] at hz
              subst hz
              refine ty_if_ne (pc := 51) (off := 5) (t := 56) (ks := []) (by decide +kernel) (by omega) (fun hc => ?_) (fun hc => ?_)
              · exact absurd rfl hc
              · refine ty_iconst (pc := 54) (n := 0) (ks := []) (by decide +kernel) ?_
                -- at 55: .ireturn
                refine ty_ret_i (pc := 55) (ks := []) (ty := .boolean) (by decide +kernel) rfl (ty_fit_z (by omega)) ?_
                exact fail0 _ p' gs (N1 ++ N) rfl (cr_mid haR hR.1 (by omega) hf2) cr_s_at
            | true =>
              rw [if_pos rfl] at hz
              subst hz
              obtain ⟨w1, w2, w3⟩ := hok rfl
              rw [show (0 : Int) + (gs.length : Int) = gs.length by omega] at w1
              subst w1
              refine ty_if_ne (pc := 51) (off := 5) (t := 56) (ks := []) (by decide +kernel) (by omega) (fun hc => ?_) (fun hc => ?_)
              · refine done p' gs (N1 ++ N) sg lf rt l ar g rfl hf2 w2 (fun q as hm => ?_)
                rcases List.mem_append.mp hm with y | y
                · exact pt_at_fr hat1 k5 hf (.inl (by omega)) q as y
                · exact w3 q as y
              · exact absurd hc (by decide)
        · refine ty_KI ?_
          have hh : cr_h S2 n p1 ≠ 58 := hh
          rw [if_pos hh] at fail0 ⊢
          refine ty_if_eq (pc := 44) (off := 10) (t := 54) (ks := []) (by decide +kernel) (by omega) (fun hc => ?_) (fun hc => ?_)
          · refine ty_iconst (pc := 54) (n := 0) (ks := []) (by decide +kernel) ?_
            -- at 55: .ireturn
            refine ty_ret_i (pc := 55) (ks := []) (ty := .boolean) (by decide +kernel) rfl (ty_fit_z (by omega)) ?_
            exact fail0 _ p1 [] N1 rfl hmid1 cr_s_at
          · exact absurd rfl hc
    · exact absurd hc (by decide)
end CRC
