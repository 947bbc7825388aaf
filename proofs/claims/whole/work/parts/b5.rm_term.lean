/-! The reference builds a term, all levels. -/
section RMM
variable {L : Nat} {xs : Nat → Int32} {S : ty_S}
theorem bt_term (d : Nat) (hS : ty_st S) {G : mo_G} {made bs : Int} {T : Int → Int} {t : List Int} {mp : Int → Int} {NN : pt_N} (hw : mo_wf G) (hmade : made ≤ 100000) (hT : bt_T G made T (dk_f t) mp NN) {Q : ai_O → ty_S → Prop} : ∀ (m D : Nat), D + m ≤ 5 →
    ∀ (p nc : Int) (I : Nat → Int) (A : Nat → Int → Int) (ta : Int → Int) (x2 x3 : Option ai_V), rm_src I A bs t → (∀ u, 0 ≤ u → u < 26 → A 58 u = mp u) → 0 ≤ p → p ≤ t.length → I 12 = bs + p → I 25 = nc → 0 ≤ nc → nc + (t.length - p) < 24000 → (0 < D → 0 ≤ A 56 (D : Int) ∧ A 56 (D : Int) < nc ∧ 0 ≤ A 61 (A 56 (D : Int)) ∧ A 61 (A 56 (D : Int)) < 3) → (pt_t (dk_f t) m p).1 = true → (∀ q as, (q, as) ∈ (pt_t (dk_f t) m p).2.2 → (q, as) ∈ NN) → dk_f t (pt_t (dk_f t) m p).2.1 ≠ 40 →
      (∀ I' A' ta' nc' x (x2 : Int32), bt_post G made T bs D p (pt_t (dk_f t) m p).2.1 nc I A ta I' A' ta' nc' x → ty_W L xs (d + 1) 121 102 [some (.inr (.inr (some (94, 0)))), some (.inl (ty_J (D : Int))), some (.inl x2), some (.inl (ty_J x))] [] (rm_s S I' A') Q) → ty_W L xs (d + 1) 121 2 [some (.inr (.inr (some (94, 0)))), some (.inl (ty_J (D : Int))), x2, x3] [] (rm_s S I A) Q := by
  have hn : ∀ p, (t.length : Int) ≤ p → dk_f t p = 0 := fun p hp => dk_f_n hp

  -- the common part: leaf, or the bracket's state
  have main : ∀ (D : Nat) (p nc : Int) (I : Nat → Int) (A : Nat → Int → Int) (ta : Int → Int) (x2 x3 : Option ai_V), D ≤ 5 → rm_src I A bs t → (∀ u, 0 ≤ u → u < 26 → A 58 u = mp u) → 0 ≤ p → p ≤ t.length → I 12 = bs + p → I 25 = nc → 0 ≤ nc → nc + (t.length - p) < 24000 → (0 < D → 0 ≤ A 56 (D : Int) ∧ A 56 (D : Int) < nc ∧ 0 ≤ A 61 (A 56 (D : Int)) ∧ A 61 (A 56 (D : Int)) < 3) → pt_ch (dk_f t p) →
      (¬ ((97 ≤ dk_f t p ∧ dk_f t p ≤ 122) ∧ dk_f t (p + 1) = 40) → dk_f t (p + 1) ≠ 40 ∧ (p, []) ∈ NN ∧ ∀ I' A' ta' nc' x (x2 : Int32), bt_post G made T bs D p (p + 1) nc I A ta I' A' ta' nc' x → ty_W L xs (d + 1) 121 102 [some (.inr (.inr (some (94, 0)))), some (.inl (ty_J (D : Int))), some (.inl x2), some (.inl (ty_J x))] [] (rm_s S I' A') Q) →
      ((97 ≤ dk_f t p ∧ dk_f t p ≤ 122) ∧ dk_f t (p + 1) = 40 → ∀ I1 A1 (x2 : Int32), (∀ k, k ≠ 12 → k ≠ 25 → I1 k = I k) → (∀ q, q ≠ 60 → q ≠ 61 → q ≠ 62 → q ≠ 56 → A1 q = A q) → I1 12 = bs + (p + 2) ∧ I1 25 = nc + 1 → (∀ c, 0 ≤ c → c < nc → A1 60 c = A 60 c ∧ A1 61 c = (if 0 < D ∧ c = A 56 D then A 61 c + 1 else A 61 c)) → (∀ j, 0 ≤ j → j < nc * 3 → A1 62 j = if 0 < D ∧ j = A 56 D * 3 + A 61 (A 56 D) then nc else A 62 j) → (∀ j, j ≤ (D : Int) → A1 56 j = A 56 j) → A1 56 ((D : Int) + 1) = nc → A1 60 nc = dk_f t p → A1 61 nc = 0 →
        ty_W L xs (d + 1) 121 2 [some (.inr (.inr (some (94, 0)))), some (.inl (ty_J ((D : Int) + 1))), some (.inl x2), some (.inl (ty_J nc))] [] (rm_s S I1 A1) Q) →
      ty_W L xs (d + 1) 121 2 [some (.inr (.inr (some (94, 0)))), some (.inl (ty_J (D : Int))), x2, x3] [] (rm_s S I A) Q := by
    intro D p nc I A ta x2 x3 hD5 hsrc hmp h0 h1 hso hce hnc hncr hpar hch leaf brk
    have h48 := hsrc.2.1
    have hbs := hsrc.2.2.2.1
    have hr := dk_f_r hsrc.2.2.1 (p := p)
    have hr1 := dk_f_r hsrc.2.2.1 (p := p + 1)
    have hlt : p < t.length := by
      by_cases z : (t.length : Int) ≤ p
      · rw [hn p z] at hch
        unfold pt_ch at hch
        omega
      · omega
    -- x is hung on the open one
    have hang : ∀ (I1 : Nat → Int) (A1 : Nat → Int → Int) (x : Int) (w : Int32), A1 56 (D : Int) = A 56 (D : Int) → (0 < D → A1 61 (A 56 (D : Int)) = A 61 (A 56 (D : Int))) → ty_W L xs (d + 1) 121 62 [some (.inr (.inr (some (94, 0)))), some (.inl (ty_J (D : Int))), some (.inl w), some (.inl (ty_J x))] [] (rm_s S I1 (if 0 < D then rm_w (rm_w A1 62 (A 56 (D : Int) * 3 + A 61 (A 56 (D : Int))) x) 61 (A 56 (D : Int)) (A 61 (A 56 (D : Int)) + 1) else A1)) Q → ty_W L xs (d + 1) 121 52 [some (.inr (.inr (some (94, 0)))), some (.inl (ty_J (D : Int))), some (.inl w), some (.inl (ty_J x))] [] (rm_s S I1 A1) Q := by
      intro I1 A1 x w ho hcn k
      refine ty_iload_n (pc := 52) (i := 1) (ks := []) (by decide +kernel) rfl ?_
      -- at 53: .ifCond .le 9
      refine ty_if_le (pc := 53) (off := 9) (t := 62) (ks := []) (by decide +kernel) (by omega) (fun hc => ?_) (fun hc => ?_)
      · rw [if_neg (by omega)] at k
        exact k
      · have hD0 : 0 < D := by omega
        obtain ⟨g1, g2, g3, g4⟩ := hpar hD0
        rw [if_pos hD0] at k
        refine ty_aload_n (pc := 56) (i := 0) (ks := []) (by decide +kernel) rfl ?_
        refine ty_iload_n (pc := 57) (i := 1) (ks := []) (by decide +kernel) rfl ?_
        refine ty_iload_n (pc := 58) (i := 3) (ks := []) (by decide +kernel) rfl ?_
        -- at 59: .invokevirtual 205
        refine ty_callv (pc := 59) (idx := 205) (m := 123) (n := 3) (c := 13) (vs := [_, _]) (r := []) (by decide +kernel) rfl rfl (Nat.le_of_ble_eq_true rfl) (by first | rfl | assumption) (by first | exact hS.1 _ _ rfl | assumption) (rm_hang (L := L) (xs := xs) (I := I1) (A := A1) d hS (D := (D : Int)) (x := x) ⟨by omega, by omega⟩ ho ⟨g1, by omega⟩ (hcn hD0) ⟨g3, g4⟩) ?_
        rintro _ S3 ⟨rfl, rfl⟩
        refine ty_KV ?_
        exact k
    have hat := rm_at (L := L) (xs := xs) (I := I) (A := A) d hS hsrc (p := p) (q := I 12) ⟨h0, by omega⟩ hso
    refine ty_aload_n (pc := 2) (i := 0) (ks := []) (by decide +kernel) rfl ?_
    refine ty_aload_n (pc := 3) (i := 0) (ks := []) (by decide +kernel) rfl ?_
    refine ty_getI (pc := 4) (idx := 184) (ci := 13) (f := 12) (by decide +kernel) (by first | rfl | assumption) rfl (by first | exact hS.1 _ _ rfl | assumption) (fun v hv => ?_)
    simp (decide := true) only [rm_I, rm_u, rm_w, ty_sI, ty_sR, ty_sA, ty_sQ, ty_mA, ty_mQ, ↓reduceIte, false_and, and_false, true_and, and_true, and_self] at hv
    subst hv
    -- at 7: .invokevirtual 199
    refine ty_callv (pc := 7) (idx := 199) (m := 119) (n := 2) (c := 13) (vs := [_]) (r := []) (by decide +kernel) rfl rfl (Nat.le_of_ble_eq_true rfl) (by first | rfl | assumption) (by first | exact hS.1 _ _ rfl | assumption) hat ?_
    rintro _ S1 ⟨z, rfl, rfl, rfl⟩
    refine ty_KI ?_
    refine ty_istore_n (pc := 10) (i := 2) (ks := []) (ls' := [_, _, _, _]) (by decide +kernel) rfl ?_
    refine ty_iload_n (pc := 11) (i := 2) (ks := []) (by decide +kernel) rfl ?_
    refine ty_bipush (pc := 12) (n := 65) (ks := []) (by decide +kernel) (by omega) ?_
    refine ty_bipush (pc := 14) (n := 90) (ks := []) (by decide +kernel) (by omega) ?_
    -- at 16: .invokestatic 138
    refine ty_calls (pc := 16) (idx := 138) (m := 105) (n := 3) (c := 0) (av := [_, _, _]) (r := []) (by decide +kernel) rfl rfl (Nat.le_of_ble_eq_true rfl) (rm_in d (v := dk_f t p) (a := 65) (b := 90) (by omega) (by decide) (by decide)) ?_
    rintro _ S2 ⟨w, rfl, hw1, rfl⟩
    refine ty_KI ?_
    have hwr : 0 ≤ w ∧ w ≤ 1 := by rw [hw1]; split <;> omega
    refine ty_if_eq (pc := 19) (off := 17) (t := 36) (ks := []) (by decide +kernel) (by omega) (fun hc => ?_) (fun hc => ?_)
    · -- no variable
      have hnv : ¬ (65 ≤ dk_f t p ∧ dk_f t p ≤ 90) := fun q => by rw [if_pos q] at hw1; omega
      clear hc hw1 hwr
      refine ty_aload_n (pc := 36) (i := 0) (ks := []) (by decide +kernel) rfl ?_
      refine ty_iload_n (pc := 37) (i := 2) (ks := []) (by decide +kernel) rfl ?_
      -- at 38: .invokevirtual 202
      refine ty_callv (pc := 38) (idx := 202) (m := 122) (n := 2) (c := 13) (vs := [_]) (r := []) (by decide +kernel) rfl rfl (Nat.le_of_ble_eq_true rfl) (by first | rfl | assumption) (by first | exact hS.1 _ _ rfl | assumption) (rm_cellM (L := L) (xs := xs) (I := I) (A := A) d hS (c := dk_f t p) hce ⟨hnc, by omega⟩) ?_
      rintro _ S3 ⟨z, rfl, rfl, rfl⟩
      refine ty_KI ?_
      refine ty_istore_n (pc := 41) (i := 3) (ks := []) (ls' := [_, _, _, _]) (by decide +kernel) rfl ?_
      refine ty_aload_n (pc := 42) (i := 0) (ks := []) (by decide +kernel) rfl ?_
      refine ty_dup (pc := 43) (ks := []) (by decide +kernel) rfl ?_
      refine ty_getI (pc := 44) (idx := 184) (ci := 13) (f := 12) (by decide +kernel) (by first | rfl | assumption) rfl (by first | exact hS.1 _ _ rfl | assumption) (fun v hv => ?_)
      simp (decide := true) only [rm_I, rm_u, rm_w, ty_sI, ty_sR, ty_sA, ty_sQ, ty_mA, ty_mQ, ↓reduceIte, false_and, and_false, true_and, and_true, and_self] at hv
      subst hv
      refine ty_iconst (pc := 47) (n := 1) (ks := []) (by decide +kernel) ?_
      refine ty_iadd (pc := 48) (ks := []) (by decide +kernel) ?_
      refine ty_putI (pc := 49) (idx := 184) (ci := 13) (f := 12) (by decide +kernel) (by first | rfl | assumption) rfl rfl (by first | exact hS.1 _ _ rfl | assumption) ?_
      rw [rm_sI]
      -- at 52: .iload_n 1
      rw [hso]
      refine hang _ _ _ _ rfl (fun hD0 => ?_) ?_
      · obtain ⟨g1, g2, -⟩ := hpar hD0
        show (if 61 = 61 ∧ A 56 (D : Int) = z then 0 else if 61 = 60 ∧ A 56 (D : Int) = z then dk_f t p else A 61 (A 56 (D : Int))) = _
        rw [if_neg (by omega), if_neg (by simp)]
      -- all that is known of the arrays now
      generalize hA2 : (if 0 < D then rm_w (rm_w (rm_w (rm_w A 60 z (dk_f t p)) 61 z 0) 62 (A 56 (D : Int) * 3 + A 61 (A 56 (D : Int))) z) 61 (A 56 (D : Int)) (A 61 (A 56 (D : Int)) + 1) else rm_w (rm_w A 60 z (dk_f t p)) 61 z 0) = A2
      have aO : ∀ q, q ≠ 60 → q ≠ 61 → q ≠ 62 → A2 q = A q := fun q h1 h2 h3 => by
        rw [← hA2]
        funext j
        split
        · simp [rm_w, h1, h2, h3]
        · simp [rm_w, h1, h2]
      have aS : ∀ c, A2 60 c = if c = z then dk_f t p else A 60 c := fun c => by
        rw [← hA2]
        split
        · simp [rm_w]
        · simp [rm_w]
      have aC : ∀ c, A2 61 c = if 0 < D ∧ c = A 56 D then A 61 c + 1 else if c = z then 0 else A 61 c := fun c => by
        rw [← hA2]
        by_cases hD0 : 0 < D
        · rw [if_pos hD0]
          by_cases e : c = A 56 D
          · rw [if_pos ⟨hD0, e⟩, e]
            simp [rm_w]
          · rw [if_neg (fun q => e q.2)]
            simp [rm_w, e]
        · rw [if_neg hD0, if_neg (fun q => hD0 q.1)]
          simp [rm_w]
      have aG : ∀ j, A2 62 j = if 0 < D ∧ j = A 56 D * 3 + A 61 (A 56 D) then z else A 62 j := fun j => by
        rw [← hA2]
        by_cases hD0 : 0 < D
        · rw [if_pos hD0]
          simp [rm_w, hD0]
        · rw [if_neg hD0, if_neg (fun q => hD0 q.1)]
          simp [rm_w]
      clear hA2
      have aZ : A2 61 z = 0 := by
        rw [aC, if_neg (fun q => by obtain ⟨g1, g2, -⟩ := hpar q.1; omega), if_pos rfl]
      have hsrc2 : rm_src (rm_u (rm_u I 25 (z + 1)) 12 (bs + p + 1)) A2 bs t := rm_src_e hsrc rfl (aO _ (by decide) (by decide) (by decide))
      have hat2 := rm_at (L := L) (xs := xs) d hS hsrc2 (p := p + 1) (q := bs + p + 1) ⟨by omega, by omega⟩ (by omega)
      refine ty_iload_n (pc := 62) (i := 3) (ks := []) (by decide +kernel) rfl ?_
      -- at 63: .ifCond .lt 39
      refine ty_if_lt (pc := 63) (off := 39) (t := 102) (ks := []) (by decide +kernel) (by omega) (fun hc => ?_) (fun hc => ?_)
      · omega
      clear hc
      refine ty_aload_n (pc := 66) (i := 0) (ks := []) (by decide +kernel) rfl ?_
      refine ty_aload_n (pc := 67) (i := 0) (ks := []) (by decide +kernel) rfl ?_
      refine ty_getI (pc := 68) (idx := 184) (ci := 13) (f := 12) (by decide +kernel) (by first | rfl | assumption) rfl (by first | exact hS.1 _ _ rfl | assumption) (fun v hv => ?_)
      simp (decide := true) only [rm_I, rm_u, rm_w, ty_sI, ty_sR, ty_sA, ty_sQ, ty_mA, ty_mQ, ↓reduceIte, false_and, and_false, true_and, and_true, and_self] at hv
      subst hv
      -- at 71: .invokevirtual 199
      refine ty_callv (pc := 71) (idx := 199) (m := 119) (n := 2) (c := 13) (vs := [_]) (r := []) (by decide +kernel) rfl rfl (Nat.le_of_ble_eq_true rfl) (by first | rfl | assumption) (by first | exact hS.1 _ _ rfl | assumption) hat2 ?_
      rintro _ S4 ⟨y, rfl, rfl, rfl⟩
      refine ty_KI ?_
      refine ty_bipush (pc := 74) (n := 40) (ks := []) (by decide +kernel) (by omega) ?_
      -- at 76: .if_icmp .ne 26
      refine ty_icmp_ne (pc := 76) (off := 26) (t := 102) (ks := []) (by decide +kernel) (by omega) (by omega) (fun hc => ?_) (fun hc => ?_)
      · -- a leaf
        obtain ⟨lf1, lf2, lf3⟩ := leaf (fun q => hc q.2)
        obtain ⟨u1, u2, u3, u4, u5⟩ := hT p [] lf2
        have htz : ∀ c, c ≠ z → mo_up ta z (T p) c = ta c := fun c hcz => if_neg hcz
        have hnf : rm_nf G (T p) = T p := by
          unfold rm_nf
          rw [u2, if_neg hnv]
        refine lf3 _ A2 (mo_up ta z (T p)) (z + 1) z _ ⟨fun k h1 h2 => (if_neg h1).trans (if_neg h2), fun q h1 h2 h3 _ => aO q h1 h2 h3, ⟨(if_pos rfl).trans (by omega), (if_neg (by decide)).trans (if_pos rfl), by omega, by omega⟩, fun c c0 c1 => ⟨by rw [aS, if_neg (by omega)], htz c (by omega), by rw [aC]; split; rfl; rw [if_neg (by omega)]⟩, fun j _ _ => aG j, fun j _ => by rw [aO _ (by decide) (by decide) (by decide)], fun c c0 c1 => ?_, .inr ⟨hnc, by omega, by rw [hnf]; exact if_pos rfl⟩, .inr rfl⟩
        have ec : c = z := by omega
        subst ec
        have etc : mo_up ta c (T p) c = T p := if_pos rfl
        unfold rm_cell
        rw [etc]
        refine ⟨u1, by rw [u2]; exact hnv, by rw [aS, if_pos rfl, u2], by rw [aZ, u3]; rfl, fun k k0 k1 => ?_⟩
        rw [u3] at k1
        simp only [List.length_nil] at k1
        omega
      · have hsm : 97 ≤ dk_f t p ∧ dk_f t p ≤ 122 := by
          by_cases q : (97 ≤ dk_f t p ∧ dk_f t p ≤ 122) ∧ dk_f t (p + 1) = 40
          · exact q.1
          · exact absurd hc (leaf q).1
        refine ty_aload_n (pc := 79) (i := 0) (ks := []) (by decide +kernel) rfl ?_
        refine ty_dup (pc := 80) (ks := []) (by decide +kernel) rfl ?_
        refine ty_getI (pc := 81) (idx := 184) (ci := 13) (f := 12) (by decide +kernel) (by first | rfl | assumption) rfl (by first | exact hS.1 _ _ rfl | assumption) (fun v hv => ?_)
        simp (decide := true) only [rm_I, rm_u, rm_w, ty_sI, ty_sR, ty_sA, ty_sQ, ty_mA, ty_mQ, ↓reduceIte, false_and, and_false, true_and, and_true, and_self] at hv
        subst hv
        refine ty_iconst (pc := 84) (n := 1) (ks := []) (by decide +kernel) ?_
        refine ty_iadd (pc := 85) (ks := []) (by decide +kernel) ?_
        refine ty_putI (pc := 86) (idx := 184) (ci := 13) (f := 12) (by decide +kernel) (by first | rfl | assumption) rfl rfl (by first | exact hS.1 _ _ rfl | assumption) ?_
        rw [rm_sI]
        refine ty_iinc (pc := 89) (i := 1) (n := 1) (ks := []) (ls' := [_, _, _, _]) (by decide +kernel) rfl rfl ?_
        refine ty_aload_n (pc := 92) (i := 0) (ks := []) (by decide +kernel) rfl ?_
        refine ty_getS (b := (56, 0)) (pc := 93) (idx := 19) (ci := 13) (f := 3) (by decide +kernel) (by first | rfl | assumption) rfl (by first | exact hS.1 _ _ rfl | assumption) (by first | exact hS.2.2 _ _ _ _ rfl | assumption) ?_
        refine ty_iload_n (pc := 96) (i := 1) (ks := []) (by decide +kernel) rfl ?_
        refine ty_iload_n (pc := 97) (i := 3) (ks := []) (by decide +kernel) rfl ?_
        refine ty_iastore (pc := 98) (ks := []) (by decide +kernel) (by first | rfl | assumption) (by rfl) (by first | exact hS.1 _ _ rfl | assumption) (by first | exact hS.2.1 _ _ _ rfl | assumption) (by omega) ?_
        rw [rm_sA (by decide)]
        refine ty_goto (pc := 99) (off := (-97)) (t := 2) (ks := []) (by decide +kernel) ?_
        -- at 2: .aload_n 0
        have hop2 : ∀ j, j ≤ (D : Int) → (rm_w A2 56 ((D : Int) + 1) z) 56 j = A 56 j := fun j hj => by
          show (if 56 = 56 ∧ j = (D : Int) + 1 then z else A2 56 j) = _
          rw [if_neg (by omega), aO _ (by decide) (by decide) (by decide)]
        have ne2 : ∀ q j, q ≠ 56 → (rm_w A2 56 ((D : Int) + 1) z) q j = A2 q j := fun q j hq => if_neg (fun w => hq w.1)
        refine brk ⟨hsm, hc⟩ _ _ _ (fun k h1 h2 => (if_neg h1).trans ((if_neg h1).trans (if_neg h2))) (fun q h1 h2 h3 h4 => by funext j; rw [ne2 q j h4, aO q h1 h2 h3]) ⟨(if_pos rfl).trans (by omega), (if_neg (by decide)).trans ((if_neg (by decide)).trans (if_pos rfl))⟩ (fun c c0 c1 => ⟨by rw [ne2 _ _ (by decide), aS, if_neg (by omega)], by rw [ne2 _ _ (by decide), aC]; split; rfl; rw [if_neg (by omega)]⟩) (fun j _ _ => by rw [ne2 _ _ (by decide)]; exact aG j) hop2 (if_pos ⟨rfl, rfl⟩) (by rw [ne2 _ _ (by decide), aS, if_pos rfl]) (by rw [ne2 _ _ (by decide)]; exact aZ)
    · -- a variable
      have hv : 65 ≤ dk_f t p ∧ dk_f t p ≤ 90 := by
        by_cases q : 65 ≤ dk_f t p ∧ dk_f t p ≤ 90
        · exact q
        · rw [if_neg q] at hw1
          exact absurd hw1 hc
      clear hc hw1 hwr
      obtain ⟨lf1, lf2, lf3⟩ := leaf (fun q => by omega)
      obtain ⟨u1, u2, u3, u4, u5⟩ := hT p [] lf2
      have u5 := u5 hv
      have hmv := mo_ok_var hw u1 (by rw [u2]; exact hv)
      rw [u5] at hmv
      have hmap := hmp (dk_f t p - 65) (by omega) (by omega)
      refine ty_iconst (pc := 22) (n := (-1)) (ks := []) (by decide +kernel) ?_
      refine ty_aload_n (pc := 23) (i := 0) (ks := []) (by decide +kernel) rfl ?_
      refine ty_getS (b := (58, 0)) (pc := 24) (idx := 25) (ci := 13) (f := 5) (by decide +kernel) (by first | rfl | assumption) rfl (by first | exact hS.1 _ _ rfl | assumption) (by first | exact hS.2.2 _ _ _ _ rfl | assumption) ?_
      refine ty_iload_n (pc := 27) (i := 2) (ks := []) (by decide +kernel) rfl ?_
      refine ty_bipush (pc := 28) (n := 65) (ks := []) (by decide +kernel) (by omega) ?_
      refine ty_isub (pc := 30) (ks := []) (by decide +kernel) ?_
      refine ty_iaload (pc := 31) (ks := []) (by decide +kernel) (by first | rfl | assumption) (by rfl) (by first | exact hS.1 _ _ rfl | assumption) (by first | exact hS.2.1 _ _ _ rfl | assumption) (by omega) (fun v hv => ?_)
      rw [rm_A (by decide)] at hv
      first | (simp (decide := true) only [rm_w, ty_sI, ty_sR, ty_sA, ty_sQ, ty_mA, ty_mQ, ↓reduceIte, false_and, and_false, true_and, and_true, and_self] at hv) | skip
      subst hv
      refine ty_isub (pc := 32) (ks := []) (by decide +kernel) ?_
      refine ty_goto (pc := 33) (off := 8) (t := 41) (ks := []) (by decide +kernel) ?_
      refine ty_istore_n (pc := 41) (i := 3) (ks := []) (ls' := [_, _, _, _]) (by decide +kernel) rfl ?_
      refine ty_aload_n (pc := 42) (i := 0) (ks := []) (by decide +kernel) rfl ?_
      refine ty_dup (pc := 43) (ks := []) (by decide +kernel) rfl ?_
      refine ty_getI (pc := 44) (idx := 184) (ci := 13) (f := 12) (by decide +kernel) (by first | rfl | assumption) rfl (by first | exact hS.1 _ _ rfl | assumption) (fun v hv => ?_)
      simp (decide := true) only [rm_I, rm_u, rm_w, ty_sI, ty_sR, ty_sA, ty_sQ, ty_mA, ty_mQ, ↓reduceIte, false_and, and_false, true_and, and_true, and_self] at hv
      subst hv
      refine ty_iconst (pc := 47) (n := 1) (ks := []) (by decide +kernel) ?_
      refine ty_iadd (pc := 48) (ks := []) (by decide +kernel) ?_
      refine ty_putI (pc := 49) (idx := 184) (ci := 13) (f := 12) (by decide +kernel) (by first | rfl | assumption) rfl rfl (by first | exact hS.1 _ _ rfl | assumption) ?_
      rw [rm_sI]
      -- at 52: .iload_n 1
      rw [hso, hmap]
      refine hang _ _ _ _ rfl (fun _ => rfl) ?_
      generalize hA2 : (if 0 < D then rm_w (rm_w A 62 (A 56 (D : Int) * 3 + A 61 (A 56 (D : Int))) (-1 - mp (dk_f t p - 65))) 61 (A 56 (D : Int)) (A 61 (A 56 (D : Int)) + 1) else A) = A2
      have aO : ∀ q, q ≠ 61 → q ≠ 62 → A2 q = A q := fun q h2 h3 => by
        rw [← hA2]
        funext j
        split
        · simp [rm_w, h2, h3]
        · rfl
      have aC : ∀ c, A2 61 c = if 0 < D ∧ c = A 56 D then A 61 c + 1 else A 61 c := fun c => by
        rw [← hA2]
        by_cases hD0 : 0 < D
        · rw [if_pos hD0]
          by_cases e : c = A 56 D
          · rw [if_pos ⟨hD0, e⟩, e]
            simp [rm_w]
          · rw [if_neg (fun q => e q.2)]
            simp [rm_w, e]
        · rw [if_neg hD0, if_neg (fun q => hD0 q.1)]
      have aG : ∀ j, A2 62 j = if 0 < D ∧ j = A 56 D * 3 + A 61 (A 56 D) then -1 - mp (dk_f t p - 65) else A 62 j := fun j => by
        rw [← hA2]
        by_cases hD0 : 0 < D
        · rw [if_pos hD0]
          simp [rm_w, hD0]
        · rw [if_neg hD0, if_neg (fun q => hD0 q.1)]
      clear hA2
      have hnf : rm_nf G (T p) = -1 - mp (dk_f t p - 65) := by
        unfold rm_nf
        rw [u2, if_pos hv, u5]
      refine ty_iload_n (pc := 62) (i := 3) (ks := []) (by decide +kernel) rfl ?_
      -- at 63: .ifCond .lt 39
      refine ty_if_lt (pc := 63) (off := 39) (t := 102) (ks := []) (by decide +kernel) (by omega) (fun hc => ?_) (fun hc => ?_)
      rotate_left
      · omega
      clear hc
      exact lf3 _ A2 ta nc _ _ ⟨fun k h1 h2 => if_neg h1, fun q _ h2 h3 _ => aO q h2 h3, ⟨(if_pos rfl).trans (by omega), (if_neg (by decide)).trans hce, by omega, by omega⟩, fun c c0 c1 => ⟨by rw [aO _ (by decide) (by decide)], rfl, aC c⟩, fun j _ _ => aG j, fun j _ => by rw [aO _ (by decide) (by decide)], fun c c0 c1 => by omega, .inl ⟨by omega, hnf.symm⟩, .inl (by omega)⟩
  have chok : ∀ m p, (pt_t (dk_f t) m p).1 = true → pt_ch (dk_f t p) := fun m p hok => by
    by_cases e : pt_ch (dk_f t p)
    · exact e
    · cases m with
      | zero =>
        unfold pt_t at hok
        rw [if_pos e] at hok
        exact absurd (show false = true from hok) (by decide)
      | succ m =>
        unfold pt_t at hok
        rw [if_pos e] at hok
        exact absurd (show false = true from hok) (by decide)
  intro m
  induction m with
  | zero =>
    intro D hDm p nc I A ta x2 x3 hsrc hmp h0 h1 hso hce hnc hncr hpar hok hNN h40 cont
    have hch := chok 0 p hok
    unfold pt_t at hok hNN h40 cont
    rw [if_neg (not_not_intro hch)] at hok hNN h40 cont
    have hnb : ¬ ((97 ≤ dk_f t p ∧ dk_f t p ≤ 122) ∧ dk_f t (p + 1) = 40) := fun q => by
      rw [if_pos q] at hok
      exact absurd (show false = true from hok) (by decide)
    rw [if_neg hnb] at hNN h40 cont
    exact main D p nc I A ta x2 x3 (by omega) hsrc hmp h0 h1 hso hce hnc hncr hpar hch (fun _ => ⟨h40, hNN p [] List.mem_cons_self, cont⟩) (fun q => absurd q hnb)
  | succ m ih =>
    intro D hDm p nc I A ta x2 x3 hsrc hmp h0 h1 hso hce hnc hncr hpar hok hNN h40 cont
    have hch := chok (m + 1) p hok
    have step : pt_t (dk_f t) (m + 1) p = if ¬ pt_ch (dk_f t p) then (false, p, []) else if (97 ≤ dk_f t p ∧ dk_f t p ≤ 122) ∧ dk_f t (p + 1) = 40 then ((pt_a (dk_f t) (pt_t (dk_f t) m) 3 (p + 2)).1, (pt_a (dk_f t) (pt_t (dk_f t) m) 3 (p + 2)).2.1, (p, (pt_a (dk_f t) (pt_t (dk_f t) m) 3 (p + 2)).2.2.1) :: (pt_a (dk_f t) (pt_t (dk_f t) m) 3 (p + 2)).2.2.2) else (true, p + 1, [(p, [])]) := rfl
    rw [step, if_neg (not_not_intro hch)] at hok hNN h40 cont
    clear step
    refine main D p nc I A ta x2 x3 (by omega) hsrc hmp h0 h1 hso hce hnc hncr hpar hch (fun hnb => ?_) (fun hb I1 A1 w c1 c2 c3 c4 c5 c6 c7 c8 c9 => ?_)
    · rw [if_neg hnb] at hNN h40 cont
      exact ⟨h40, hNN p [] List.mem_cons_self, cont⟩
    · rw [if_pos hb] at hok hNN h40 cont
      have hlt : p + 1 < t.length := by
        by_cases z : (t.length : Int) ≤ p + 1
        · have := hn _ z
          omega
        · omega
      have hmem := hNN p _ List.mem_cons_self
      obtain ⟨u1, u2, u3, u4, u5⟩ := hT p _ hmem
      have hnv : ¬ (65 ≤ dk_f t p ∧ dk_f t p ≤ 90) := by omega
      have hnf : rm_nf G (T p) = T p := by
        unfold rm_nf
        rw [u2, if_neg hnv]
      obtain ⟨v1, v2, v3, v4⟩ := pt_a_spec hn (pt_t_spec hn m) 3 (p + 2) (by omega) (by omega)
      have ea : ((D + 1 : Nat) : Int) = (D : Int) + 1 := by omega
      have hargs := bt_args (L := L) (xs := xs) d hS hw hT (Q := Q) D m (by omega) (fun p nc I A ta x2 x3 a1 a2 a3 a4 a5 a6 a7 a8 a9 a10 a11 a12 a13 => ih (D + 1) (by omega) p nc I A ta x2 x3 a1 a2 a3 a4 a5 a6 a7 a8 (fun _ => a9) a10 a11 a12 a13) 3 0 (p + 2) (nc + 1) nc I1 A1 (mo_up ta nc (T p)) (some (.inl w)) (some (.inl (ty_J nc))) (rm_src_e hsrc (c1 _ (by decide) (by decide)) (c2 _ (by decide) (by decide) (by decide) (by decide))) (by rw [c2 _ (by decide) (by decide) (by decide) (by decide)]; exact hmp) (by omega) (by omega) c3.1 c3.2 (by omega) (by omega) (Int.le_refl _) (by decide) (by rw [ea]; exact c7) hnc (by omega) c9 hok (fun q as hm => hNN q as (List.mem_cons_of_mem _ hm)) ?_
      · rw [ea] at hargs
        exact hargs
      intro I2 A2 ta2 nc2 z2 g1 g2 g3 g4 g5 g6 g7 g8 g9
      have tz : ta2 nc = T p := (g4 nc hnc (by omega)).2.1.trans (if_pos rfl)
      refine cont I2 A2 ta2 nc2 nc z2 ⟨fun k h1 h2 => (g1 k h1 h2).trans (c1 k h1 h2), fun q h1 h2 h3 h4 => (g2 q h1 h2 h3 h4).trans (c2 q h1 h2 h3 h4), ⟨g3.1, g3.2.1, by omega, ?_⟩, fun c q0 q1 => ?_, fun j j0 j1 => ?_, fun j hj => ?_, fun c q0 q1 => ?_, .inr ⟨hnc, by omega, by rw [hnf]; exact tz⟩, .inr rfl⟩
      · have := g3.2.2.2
        simp only
        omega
      · obtain ⟨w1, w2, w3⟩ := g4 c q0 (by omega)
        exact ⟨w1.trans (c4 c q0 q1).1, w2.trans (if_neg (by omega)), (w3 (by omega)).trans (c4 c q0 q1).2⟩
      · rw [g6 j j0 (by omega) (by omega)]
        exact c5 j j0 j1
      · rw [g8 j (by omega)]
        exact c6 j hj
      · by_cases e : c = nc
        · subst e
          unfold rm_cell
          rw [tz]
          refine ⟨u1, by rw [u2]; exact hnv, ?_, ?_, fun k k0 k1 => ?_⟩
          · rw [(g4 c hnc (by omega)).1, c8, u2]
          · rw [g5, u3]
            omega
          · rw [u3] at k1
            have hk : (pt_a (dk_f t) (pt_t (dk_f t) m) 3 (p + 2)).2.2.1[k.toNat]? = some (pt_a (dk_f t) (pt_t (dk_f t) m) 3 (p + 2)).2.2.1[k.toNat] := List.getElem?_eq_getElem (by omega)
            have h1 := g7 k.toNat _ hk
            have h2 := u4 k.toNat _ hk
            rw [show ((k.toNat : Nat) : Int) = k by omega] at h1 h2
            rw [show c * 3 + 0 + k = c * 3 + k by omega] at h1
            rw [h2]
            exact h1
        · exact g9 c (by omega) q1
end RMM
