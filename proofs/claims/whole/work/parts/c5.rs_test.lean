/-! The reference tests whether two terms could be same. -/
section RST
variable {L : Nat} {xs : Nat → Int32} {S : ty_S} {G : mo_G} {ta : Int → Int} {nc made ns : Int}
/-- the reference between pairs -/
def rh_R (I : Nat → Int) (A : Nat → Int → Int) (G : mo_G) (ta : Int → Int) (nc made ns st thr : Int) (bd : Int → Int) (ch : Int → List Int) : Prop :=
  (I 30 = st ∧ 0 ≤ st ∧ st ≤ 500) ∧ I 11 = thr ∧ ((0 ≤ I 32 ∧ I 32 ≤ 4 * st) ∧ rt_ok (A 71) (I 32)) ∧ I 40 = 0 ∧
  (∀ v, 0 ≤ v → v < made → rm_b ta nc (A 63 v) (bd v)) ∧ cv_rv bd (A 64) (A 65) (A 74) made bd ch ∧ (∀ c, 0 ≤ c → c < nc → rm_cell G made ta nc A c) ∧ (0 ≤ nc ∧ nc ≤ 24000) ∧ (0 ≤ made ∧ made ≤ 13000) ∧ 0 ≤ ns ∧ ns ≤ 500
theorem rs_R.toH {I : Nat → Int} {A : Nat → Int → Int} {st thr : Int} {u : mo_U} (h : rs_R I A G ta nc made ns false st thr u) : rh_R I A G ta nc made ns st thr u.2.1 u.2.2.1 := by
  obtain ⟨a1, a2, a3, a4, a5, a6, a7, a8, a9⟩ := h
  exact ⟨a1, a2, a3, a5.2, a7, a8, a9⟩
/-- what a test leaves alone -/
def rh_fm (I : Nat → Int) (A : Nat → Int → Int) (I' : Nat → Int) (A' : Nat → Int → Int) : Prop := (∀ k, k ≠ 30 → k ≠ 11 → k ≠ 36 → k ≠ 39 → k ≠ 37 → I' k = I k) ∧ (∀ q, q ≠ 71 → q ≠ 72 → q ≠ 78 → q ≠ 79 → A' q = A q) ∧ ∀ j, j < I 32 → A' 71 j = A 71 j ∧ A' 72 j = A 72 j
theorem rh_fm_R {I I' : Nat → Int} {A A' : Nat → Int → Int} {st st' thr : Int} {bd : Int → Int} {ch : Int → List Int} (h : rh_R I A G ta nc made ns st 0 bd ch) (hf : rh_fm I A I' A') (hs : I' 30 = st') (ht : I' 11 = thr) (hst : st ≤ st' ∧ st' ≤ 500) : rh_R I' A' G ta nc made ns st' thr bd ch := by
  obtain ⟨a1, a2, a3, a4, a5, a6, a7, a8⟩ := h
  obtain ⟨f1, f2, f3⟩ := hf
  have e := f1 32 (by decide) (by decide) (by decide) (by decide) (by decide)
  refine ⟨⟨hs, by omega, hst.2⟩, ht, ⟨by rw [e]; omega, ?_⟩, (f1 _ (by decide) (by decide) (by decide) (by decide) (by decide)).trans a4, ?_, ?_, fun c c0 c1 => rm_cell_e (a7 c c0 c1) (f2 _ (by decide) (by decide) (by decide) (by decide)) (f2 _ (by decide) (by decide) (by decide) (by decide)) (f2 _ (by decide) (by decide) (by decide) (by decide)), a8⟩
  · rw [e]
    intro j j0 j1
    rw [(f3 j j1).1]
    exact a3.2 j j0 j1
  · rw [f2 _ (by decide) (by decide) (by decide) (by decide)]
    exact a5
  · rw [f2 64 (by decide) (by decide) (by decide) (by decide), f2 65 (by decide) (by decide) (by decide) (by decide), f2 74 (by decide) (by decide) (by decide) (by decide)]
    exact a6
theorem rh_fm_ud {I I' : Nat → Int} {A A' : Nat → Int → Int} (hf : rh_fm I A I' A') : rt_ud A (I 32) A' (I' 32) := by
  obtain ⟨f1, f2, f3⟩ := hf
  have e := f1 32 (by decide) (by decide) (by decide) (by decide) (by decide)
  rw [e]
  have er : rr A' = rr A := rr_e (f2 _ (by decide) (by decide) (by decide) (by decide)) (f2 _ (by decide) (by decide) (by decide) (by decide)) (f2 _ (by decide) (by decide) (by decide) (by decide)) (f2 _ (by decide) (by decide) (by decide) (by decide)) (f2 _ (by decide) (by decide) (by decide) (by decide))
  exact ⟨Int.le_refl _, f3, fun to h0 h1 => by rw [er]; exact ru_eq _ _ (fun j a b => f3 j (by omega))⟩
def rt_z (r : Int × Int × (Int → Int) × (Int → List Int) × List Int × Bool) : Int := if r.1 = 2 then 2 else if r.1 = 1 then (if r.2.2.2.2.2 = true then 1 else 2) else 0
theorem ru_5 {at' old : Int → Int} {to : Int} : ∀ (m : Nat) (R : Nat → Int → Int), (∀ r, 5 ≤ r → R r = fun _ => 0) → ∀ r, 5 ≤ r → ru at' old to m R r = fun _ => 0
  | 0, _, h => h
  | m + 1, R, h => ru_5 m _ (fun r hr => by
    funext j
    show (if r = (at' (to + m) % 5).toNat ∧ j = at' (to + m) / 5 then old (to + m) else R r j) = 0
    rw [if_neg (by omega), h r hr])
theorem rr_5 {A : Nat → Int → Int} : ∀ r, 5 ≤ r → rr A r = fun _ => 0 := fun r hr => by
  unfold rr
  rw [if_neg (by omega), if_neg (by omega), if_neg (by omega), if_neg (by omega), if_neg (by omega)]
theorem rm_test (d : Nat) (hS : ty_st S) (hw : mo_wf G) (hmade : made ≤ 13000) {w : List Int} {st : Int} {I : Nat → Int} {A : Nat → Int → Int} {bd : Int → Int} {ch : Int → List Int} (hR : rh_R I A G ta nc made ns st 0 bd ch) {x y l r : Int} (hx : rm_t G ta nc x l) (hy : rm_t G ta nc y r) (hl : mo_ok G made l) (hr : mo_ok G made r) (hbw : mo_bw G made bd) {wk dn : List Int} (hcw : mo_cw made ns bd ch (dn ++ wk)) :
    ty_C L xs (d + 5) 138 [.inr (.inr (some (94, 0))), .inl (ty_J x), .inl (ty_J y)] (rm_s S I A) (ty_oI fun z S' => z = rt_z (mo_ur G true st ([(l, r)], bd, ch, wk, false)) ∧ ∃ I' A', S' = rm_s S I' A' ∧ rh_fm I A I' A' ∧ I' 30 = (mo_ur G true st ([(l, r)], bd, ch, wk, false)).2.1 ∧ I' 11 = (if (mo_ur G true st ([(l, r)], bd, ch, wk, false)).1 = 2 then 3 else 0)) := by
  have hpo : mo_po G made [(l, r)] := fun p hp => by
    rw [List.mem_singleton.mp hp]
    exact ⟨hl, hr⟩
  have hinv := mo_un_inv hw (made := made) (ns := ns) (by omega) (tr := true) (dn := dn) (501 - st).toNat st [(l, r)] bd ch wk false (by have := hR.1; omega) hR.1.2.2 hpo hbw hcw
  refine ty_enter (ml := 6) (ls := [_, _, _, _, _, _]) rfl rfl (Nat.le_of_ble_eq_true rfl) ?_
  refine ty_aload_n (pc := 0) (i := 0) (ks := []) (by decide +kernel) rfl ?_
  refine ty_getI (pc := 1) (idx := 219) (ci := 13) (f := 32) (by decide +kernel) (by first | rfl | assumption) rfl (by first | exact hS.1 _ _ rfl | assumption) (fun v hv => ?_)
  simp (decide := true) only [rm_I, rm_u, rm_w, ty_sI, ty_sR, ty_sA, ty_sQ, ty_mA, ty_mQ, ↓reduceIte, false_and, and_false, true_and, and_true, and_self] at hv
  subst hv
  refine ty_istore_n (pc := 4) (i := 3) (ks := []) (ls' := [_, _, _, _, _, _]) (by decide +kernel) rfl ?_
  refine ty_aload_n (pc := 5) (i := 0) (ks := []) (by decide +kernel) rfl ?_
  refine ty_iconst (pc := 6) (n := 1) (ks := []) (by decide +kernel) ?_
  refine ty_putZ (pc := 7) (idx := 246) (ci := 13) (f := 40) (by decide +kernel) (by first | rfl | assumption) rfl rfl (by first | exact hS.1 _ _ rfl | assumption) (by omega) ?_
  rw [rm_sI]
  refine ty_aload_n (pc := 10) (i := 0) (ks := []) (by decide +kernel) rfl ?_
  refine ty_iconst (pc := 11) (n := 0) (ks := []) (by decide +kernel) ?_
  refine ty_putI (pc := 12) (idx := 231) (ci := 13) (f := 36) (by decide +kernel) (by first | rfl | assumption) rfl rfl (by first | exact hS.1 _ _ rfl | assumption) ?_
  rw [rm_sI]
  refine ty_aload_n (pc := 15) (i := 0) (ks := []) (by decide +kernel) rfl ?_
  refine ty_iload_n (pc := 16) (i := 1) (ks := []) (by decide +kernel) rfl ?_
  refine ty_iload_n (pc := 17) (i := 2) (ks := []) (by decide +kernel) rfl ?_
  -- at 18: .invokevirtual 253
  refine ty_callv (pc := 18) (idx := 253) (m := 130) (n := 3) (c := 13) (vs := [_, _]) (r := []) (by decide +kernel) rfl rfl (Nat.le_of_ble_eq_true rfl) (by first | rfl | assumption) (by first | exact hS.1 _ _ rfl | assumption) ((rm_pair (L := L) (xs := xs) (I := rm_u (rm_u I 40 1) 36 0) (A := A) d hS (n := 0) rfl ⟨by decide, by decide⟩).deeper (by omega)) ?_
  rintro _ S1 ⟨rfl, rfl⟩
  refine ty_KV ?_
  generalize hA1 : rm_w (rm_w A 78 0 x) 79 0 y = A1
  generalize hI1 : rm_u (rm_u (rm_u I 40 1) 36 0) 36 (0 + 1) = I1
  have iO : ∀ k, k ≠ 40 → k ≠ 36 → I1 k = I k := fun k h1 h2 => by
    rw [← hI1]
    exact (if_neg h2).trans ((if_neg h2).trans (if_neg h1))
  have iT : I1 40 = 1 := by rw [← hI1]; rfl
  have iP : I1 36 = 1 := by rw [← hI1]; rfl
  have aO : ∀ q, q ≠ 78 → q ≠ 79 → A1 q = A q := fun q h1 h2 => by
    rw [← hA1]
    funext j
    simp [rm_w, h1, h2]
  have aL : A1 78 0 = x := by rw [← hA1]; simp [rm_w]
  have aR : A1 79 0 = y := by rw [← hA1]; simp [rm_w]
  clear hA1 hI1
  have hRs : rs_R (rm_u (rm_u I1 39 0) 37 0) A1 G ta nc made ns true st 0 ([(l, r)], bd, ch, wk, false) := by
    obtain ⟨a1, a2, a3, a4, a5, a6, a7, a8⟩ := hR
    have q : ∀ k, k ≠ 40 → k ≠ 36 → k ≠ 39 → k ≠ 37 → (rm_u (rm_u I1 39 0) 37 0) k = I k := fun k h1 h2 h3 h4 => (if_neg h4).trans ((if_neg h3).trans (iO k h1 h2))
    have qt := q 32 (by decide) (by decide) (by decide) (by decide)
    have qs := q 30 (by decide) (by decide) (by decide) (by decide)
    have qh := q 11 (by decide) (by decide) (by decide) (by decide)
    refine ⟨⟨qs.trans a1.1, a1.2⟩, qh.trans a2, ⟨by rw [qt]; exact a3.1, by rw [qt, aO _ (by decide) (by decide)]; exact a3.2⟩, ?_, ⟨rfl, iT⟩, ⟨⟨Int.le_refl _, a1.2.1⟩, fun z => absurd z (by decide)⟩, by rw [aO _ (by decide) (by decide)]; exact a5, by rw [aO 64 (by decide) (by decide), aO 65 (by decide) (by decide), aO 74 (by decide) (by decide)]; exact a6, fun c c0 c1 => rm_cell_e (a7 c c0 c1) (aO _ (by decide) (by decide)) (aO _ (by decide) (by decide)) (aO _ (by decide) (by decide)), a8⟩
    show rm_stk G ta nc (A1 78) (A1 79) (I1 36) [(l, r)]
    rw [iP]
    refine ⟨by decide, ?_, ?_, rfl⟩
    · rw [show (1 : Int) - 1 = 0 by decide, aL]; exact hx
    · rw [show (1 : Int) - 1 = 0 by decide, aR]; exact hy
  refine ty_aload_n (pc := 21) (i := 0) (ks := []) (by decide +kernel) rfl ?_
  -- at 22: .invokevirtual 256
  refine ty_callv (pc := 22) (idx := 256) (m := 132) (n := 1) (c := 13) (vs := []) (r := []) (by decide +kernel) rfl rfl (Nat.le_of_ble_eq_true rfl) (by first | rfl | assumption) (by first | exact hS.1 _ _ rfl | assumption) (rm_same (L := L) (xs := xs) d hS hw hmade (dn := dn) hRs (by simp) hpo hbw hcw) ?_
  rintro _ S1 ⟨z, rfl, hz, I2, A2, ps, rfl, hR2, hf2⟩
  refine ty_KI ?_
  have hur : mo_un G true (501 - st).toNat st ([(l, r)], bd, ch, wk, false) = mo_ur G true st ([(l, r)], bd, ch, wk, false) := rfl
  rw [hur] at hinv
  generalize mo_ur G true st ([(l, r)], bd, ch, wk, false) = u at hz hR2 hinv ⊢
  clear hur
  obtain ⟨uc, ust, ubd, uch, uwk, ufl⟩ := u
  simp only at hz hR2 hinv ⊢
  obtain ⟨i1, i2, i3, i4, i5⟩ := hinv
  obtain ⟨f1, f2, f3, f4⟩ := hf2
  obtain ⟨b1, b2, b3, b4, b5, b6, b7, b8, b9, b10⟩ := hR2
  simp only at b1 b2 b3 b5
  have tl1 : I1 32 = I 32 := iO _ (by decide) (by decide)
  have htl0 := hR.2.2.1.1
  have hbr : 0 ≤ I2 39 ∧ I2 39 ≤ 1 := by rw [b5.1]; split <;> omega
  have hzr : 0 ≤ z ∧ z ≤ 1 := by rw [hz]; split <;> omega
  rw [tl1] at f4
  have tl2 := f4.1
  have tl3 := b3.1
  have hun := rm_undo (L := L) (xs := xs) (S := S) (A := A2) (d + 3) hS (to := I 32) htl0.1 (I2 32 - I 32).toNat (rm_u I2 40 0) (rr A2) none none none (by show I2 32 = _; omega) (by omega) (by rw [show I 32 + (((I2 32 - I 32).toNat : Nat) : Int) = I2 32 by omega]; exact b3.2)
  rw [rm_rows_self, f4.2.2 _ htl0.1 (Int.le_refl _), Int.sub_self] at hun
  have hun' : ty_C L xs (d + 4) 128 [.inr (.inr (some (94, 0))), .inl (ty_J (I 32))] (rm_s S (rm_u I2 40 0) A2) (ty_oV fun S' => S' = rm_s S (rm_u (rm_u I2 40 0) 32 (I 32)) (rm_rows A2 (rr A1))) := by
    refine ty_enter (ml := 5) (ls := [_, _, _, _, _]) rfl rfl (Nat.le_of_ble_eq_true rfl) ?_
    exact hun
  clear hun
  refine ty_istore (pc := 25) (i := 4) (ks := []) (ls' := [_, _, _, _, _, _]) (by decide +kernel) rfl ?_
  refine ty_aload_n (pc := 27) (i := 0) (ks := []) (by decide +kernel) rfl ?_
  refine ty_getI (pc := 28) (idx := 228) (ci := 13) (f := 39) (by decide +kernel) (by first | rfl | assumption) rfl (by first | exact hS.1 _ _ rfl | assumption) (fun v hv => ?_)
  simp (decide := true) only [rm_I, rm_u, rm_w, ty_sI, ty_sR, ty_sA, ty_sQ, ty_mA, ty_mQ, ↓reduceIte, false_and, and_false, true_and, and_true, and_self] at hv
  subst hv
  refine ty_istore (pc := 31) (i := 5) (ks := []) (ls' := [_, _, _, _, _, _]) (by decide +kernel) rfl ?_
  refine ty_aload_n (pc := 33) (i := 0) (ks := []) (by decide +kernel) rfl ?_
  refine ty_iconst (pc := 34) (n := 0) (ks := []) (by decide +kernel) ?_
  refine ty_putZ (pc := 35) (idx := 246) (ci := 13) (f := 40) (by decide +kernel) (by first | rfl | assumption) rfl rfl (by first | exact hS.1 _ _ rfl | assumption) (by omega) ?_
  rw [rm_sI]
  refine ty_aload_n (pc := 38) (i := 0) (ks := []) (by decide +kernel) rfl ?_
  refine ty_iload_n (pc := 39) (i := 3) (ks := []) (by decide +kernel) rfl ?_
  -- at 40: .invokevirtual 259
  refine ty_callv (pc := 40) (idx := 259) (m := 128) (n := 2) (c := 13) (vs := [_]) (r := []) (by decide +kernel) rfl rfl (Nat.le_of_ble_eq_true rfl) (by first | rfl | assumption) (by first | exact hS.1 _ _ rfl | assumption) hun' ?_
  rintro _ S1 ⟨rfl, rfl⟩
  refine ty_KV ?_
  have er : rr A1 = rr A := rr_e (aO _ (by decide) (by decide)) (aO _ (by decide) (by decide)) (aO _ (by decide) (by decide)) (aO _ (by decide) (by decide)) (aO _ (by decide) (by decide))
  rw [er]
  have hpost : rh_fm I A (rm_u (rm_u I2 40 0) 32 (I 32)) (rm_rows A2 (rr A)) := by
    refine ⟨fun k h1 h2 h3 h4 h5 => ?_, fun q h1 h2 h3 h4 => ?_, fun j hj => ?_⟩
    · by_cases e1 : k = 32
      · subst e1; rfl
      by_cases e2 : k = 40
      · subst e2; exact hR.2.2.2.1.symm
      exact (if_neg e1).trans ((if_neg e2).trans ((f1 k h1 h2 e1 h3 h4 h5).trans (iO k e2 h3)))
    · by_cases e0 : q = 63
      · subst e0; rfl
      by_cases e1 : q = 64
      · subst e1; rfl
      by_cases e2 : q = 65
      · subst e2; rfl
      by_cases e3 : q = 74
      · subst e3; rfl
      by_cases e4 : q = 77
      · subst e4; rfl
      have e5 : rm_rows A2 (rr A) q = A2 q := by
        unfold rm_rows
        rw [if_neg e0, if_neg e1, if_neg e2, if_neg e3, if_neg e4]
      rw [e5]
      by_cases e6 : q = 80
      · subst e6
        exact (f3 rfl).2.2.2.trans (aO _ (by decide) (by decide))
      · exact (f2 q h1 h2 e0 e1 e2 e3 h3 h4 e6).trans (aO q h3 h4)
    · obtain ⟨g1, g2⟩ := f4.2.1 j hj
      exact ⟨g1.trans (by rw [aO _ (by decide) (by decide)]), g2.trans (by rw [aO _ (by decide) (by decide)])⟩
  have e1 : (rm_u (rm_u I2 40 0) 32 (I 32)) 30 = ust := b1.1
  have e2 : (rm_u (rm_u I2 40 0) 32 (I 32)) 11 = if uc = 2 then 3 else 0 := b2
  have htr : 0 ≤ I2 11 ∧ I2 11 ≤ 3 := by rw [b2]; split <;> omega
  refine ty_aload_n (pc := 43) (i := 0) (ks := []) (by decide +kernel) rfl ?_
  refine ty_getI (pc := 44) (idx := 135) (ci := 13) (f := 11) (by decide +kernel) (by first | rfl | assumption) rfl (by first | exact hS.1 _ _ rfl | assumption) (fun v hv => ?_)
  simp (decide := true) only [rm_I, rm_u, rm_w, ty_sI, ty_sR, ty_sA, ty_sQ, ty_mA, ty_mQ, ↓reduceIte, false_and, and_false, true_and, and_true, and_self] at hv
  subst hv
  -- at 47: .ifCond .le 5
  unfold rt_z
  simp only
  by_cases c2 : uc = 2
  · rw [if_pos c2] at b2
    refine ty_if_le (pc := 47) (off := 5) (t := 52) (ks := []) (by decide +kernel) (by omega) (fun hc => ?_) (fun hc => ?_)
    · omega
    refine ty_iconst (pc := 50) (n := 2) (ks := []) (by decide +kernel) ?_
    -- at 51: .ireturn
    refine ty_ret_i (pc := 51) (ks := []) (ty := .int) (by decide +kernel) rfl rfl ?_
    exact ⟨2, rfl, by rw [if_pos c2], _, _, rfl, hpost, e1, e2⟩
  · rw [if_neg c2] at b2
    refine ty_if_le (pc := 47) (off := 5) (t := 52) (ks := []) (by decide +kernel) (by omega) (fun hc => ?_) (fun hc => ?_)
    rotate_left
    · omega
    clear hc
    refine ty_iload (pc := 52) (i := 4) (ks := []) (by decide +kernel) rfl ?_
    -- at 54: .ifCond .ne 7
    by_cases c1 : uc = 1
    · rw [if_pos c1] at hz
      refine ty_if_ne (pc := 54) (off := 7) (t := 61) (ks := []) (by decide +kernel) (by omega) (fun hc => ?_) (fun hc => ?_)
      rotate_left
      · omega
      clear hc
      refine ty_iload (pc := 61) (i := 5) (ks := []) (by decide +kernel) rfl ?_
      -- at 63: .ifCond .eq 7
      have b51 : I2 39 = if ufl = true then 1 else 0 := b5.1
      by_cases cf : ufl = true
      · rw [if_pos cf] at b51
        refine ty_if_eq (pc := 63) (off := 7) (t := 70) (ks := []) (by decide +kernel) (by omega) (fun hc => ?_) (fun hc => ?_)
        · omega
        refine ty_iconst (pc := 66) (n := 1) (ks := []) (by decide +kernel) ?_
        refine ty_goto (pc := 67) (off := 4) (t := 71) (ks := []) (by decide +kernel) ?_
        -- at 71: .ireturn
        refine ty_ret_i (pc := 71) (ks := []) (ty := .int) (by decide +kernel) rfl rfl ?_
        exact ⟨1, rfl, by rw [if_neg c2, if_pos c1, if_pos cf], _, _, rfl, hpost, e1, e2⟩
      · rw [if_neg cf] at b51
        refine ty_if_eq (pc := 63) (off := 7) (t := 70) (ks := []) (by decide +kernel) (by omega) (fun hc => ?_) (fun hc => ?_)
        rotate_left
        · omega
        refine ty_iconst (pc := 70) (n := 2) (ks := []) (by decide +kernel) ?_
        -- at 71: .ireturn
        refine ty_ret_i (pc := 71) (ks := []) (ty := .int) (by decide +kernel) rfl rfl ?_
        exact ⟨2, rfl, by rw [if_neg c2, if_pos c1, if_neg cf], _, _, rfl, hpost, e1, e2⟩
    · rw [if_neg c1] at hz
      refine ty_if_ne (pc := 54) (off := 7) (t := 61) (ks := []) (by decide +kernel) (by omega) (fun hc => ?_) (fun hc => ?_)
      · omega
      refine ty_iconst (pc := 57) (n := 0) (ks := []) (by decide +kernel) ?_
      refine ty_goto (pc := 58) (off := 13) (t := 71) (ks := []) (by decide +kernel) ?_
      -- at 71: .ireturn
      refine ty_ret_i (pc := 71) (ks := []) (ty := .int) (by decide +kernel) rfl rfl ?_
      exact ⟨0, rfl, by rw [if_neg c2, if_neg c1], _, _, rfl, hpost, e1, e2⟩
end RST
