/-! The reference builds goals; variables are born. -/
section RMG
variable {L : Nat} {xs : Nat → Int32} {S : ty_S} {I : Nat → Int} {A : Nat → Int → Int}
theorem rm_build (d : Nat) (hS : ty_st S) {G : mo_G} {made bs : Int} {T : Int → Int} {t : List Int} {mp : Int → Int} {NN : pt_N} (hw : mo_wf G) (hmade : made ≤ 100000) (hT : bt_T G made T (dk_f t) mp NN) {p nc : Int} {ta : Int → Int} (hsrc : rm_src I A bs t) (hmp : ∀ u, 0 ≤ u → u < 26 → A 58 u = mp u) (h0 : 0 ≤ p) (h1 : p ≤ t.length) (hso : I 12 = bs + p) (hce : I 25 = nc) (hnc : 0 ≤ nc) (hncr : nc + (t.length - p) < 24000) (hok : (pt_t (dk_f t) 5 p).1 = true) (hNN : ∀ q as, (q, as) ∈ (pt_t (dk_f t) 5 p).2.2 → (q, as) ∈ NN) (h40 : dk_f t (pt_t (dk_f t) 5 p).2.1 ≠ 40) :
    ty_C L xs (d + 2) 121 [.inr (.inr (some (94, 0)))] (rm_s S I A) (ty_oI fun z S' => ∃ I' A' ta' nc', S' = rm_s S I' A' ∧ bt_post G made T bs 0 p (pt_t (dk_f t) 5 p).2.1 nc I A ta I' A' ta' nc' z) := by
  refine ty_enter (ml := 4) (ls := [_, _, _, _]) rfl rfl (Nat.le_of_ble_eq_true rfl) ?_
  refine ty_iconst (pc := 0) (n := 0) (ks := []) (by decide +kernel) ?_
  refine ty_istore_n (pc := 1) (i := 1) (ks := []) (ls' := [_, _, _, _]) (by decide +kernel) rfl ?_
  -- at 2: .aload_n 0
  refine bt_term d hS hw hmade hT 5 0 (by decide) p nc I A ta none none hsrc hmp h0 h1 hso hce hnc hncr (fun z => absurd z (by decide)) hok hNN h40 ?_
  intro I' A' ta' nc' x w hpost
  refine ty_iload_n (pc := 102) (i := 1) (ks := []) (by decide +kernel) rfl ?_
  -- at 103: .ifCond .le 39
  refine ty_if_le (pc := 103) (off := 39) (t := 142) (ks := []) (by decide +kernel) (by omega) (fun hc => ?_) (fun hc => ?_)
  · refine ty_iload_n (pc := 142) (i := 1) (ks := []) (by decide +kernel) rfl ?_
    -- at 143: .ifCond .ne 5
    refine ty_if_ne (pc := 143) (off := 5) (t := 148) (ks := []) (by decide +kernel) (by omega) (fun hc => ?_) (fun hc => ?_)
    · exact absurd rfl hc
    · refine ty_iload_n (pc := 146) (i := 3) (ks := []) (by decide +kernel) rfl ?_
      -- at 147: .ireturn
      refine ty_ret_i (pc := 147) (ks := []) (ty := .int) (by decide +kernel) rfl rfl ?_
      exact ⟨x, rfl, I', A', ta', nc', rfl, hpost⟩
  · omega
theorem rm_goal (d : Nat) (hS : ty_st S) {k x y b n g : Int} (hg : I 28 = g) (hr : 0 ≤ g ∧ g < 14000) : ty_C L xs (d + 1) 120 [.inr (.inr (some (94, 0))), .inl (ty_J k), .inl (ty_J x), .inl (ty_J y), .inl (ty_J b), .inl (ty_J n)] (rm_s S I A) (ty_oI fun z S' => z = g ∧ S' = rm_s S (rm_u I 28 (g + 1)) (rm_w (rm_w (rm_w (rm_w (rm_w A 66 g k) 67 g x) 68 g y) 69 g b) 70 g n)) := by
  subst hg
  refine ty_enter (ml := 6) (ls := [_, _, _, _, _, _]) rfl rfl (Nat.le_of_ble_eq_true rfl) ?_
  refine ty_aload_n (pc := 0) (i := 0) (ks := []) (by decide +kernel) rfl ?_
  refine ty_getS (b := (66, 0)) (pc := 1) (idx := 54) (ci := 13) (f := 20) (by decide +kernel) (by first | rfl | assumption) rfl (by first | exact hS.1 _ _ rfl | assumption) (by first | exact hS.2.2 _ _ _ _ rfl | assumption) ?_
  refine ty_aload_n (pc := 4) (i := 0) (ks := []) (by decide +kernel) rfl ?_
  refine ty_getI (pc := 5) (idx := 209) (ci := 13) (f := 28) (by decide +kernel) (by first | rfl | assumption) rfl (by first | exact hS.1 _ _ rfl | assumption) (fun v hv => ?_)
  simp (decide := true) only [rm_I, rm_u, rm_w, ty_sI, ty_sR, ty_sA, ty_sQ, ty_mA, ty_mQ, ↓reduceIte, false_and, and_false, true_and, and_true, and_self] at hv
  subst hv
  refine ty_iload_n (pc := 8) (i := 1) (ks := []) (by decide +kernel) rfl ?_
  refine ty_iastore (pc := 9) (ks := []) (by decide +kernel) (by first | rfl | assumption) (by rfl) (by first | exact hS.1 _ _ rfl | assumption) (by first | exact hS.2.1 _ _ _ rfl | assumption) (by omega) ?_
  rw [rm_sA (by decide)]
  refine ty_aload_n (pc := 10) (i := 0) (ks := []) (by decide +kernel) rfl ?_
  refine ty_getS (b := (67, 0)) (pc := 11) (idx := 57) (ci := 13) (f := 21) (by decide +kernel) (by first | rfl | assumption) rfl (by first | exact hS.1 _ _ rfl | assumption) (by first | exact hS.2.2 _ _ _ _ rfl | assumption) ?_
  refine ty_aload_n (pc := 14) (i := 0) (ks := []) (by decide +kernel) rfl ?_
  refine ty_getI (pc := 15) (idx := 209) (ci := 13) (f := 28) (by decide +kernel) (by first | rfl | assumption) rfl (by first | exact hS.1 _ _ rfl | assumption) (fun v hv => ?_)
  simp (decide := true) only [rm_I, rm_u, rm_w, ty_sI, ty_sR, ty_sA, ty_sQ, ty_mA, ty_mQ, ↓reduceIte, false_and, and_false, true_and, and_true, and_self] at hv
  subst hv
  refine ty_iload_n (pc := 18) (i := 2) (ks := []) (by decide +kernel) rfl ?_
  refine ty_iastore (pc := 19) (ks := []) (by decide +kernel) (by first | rfl | assumption) (by rfl) (by first | exact hS.1 _ _ rfl | assumption) (by first | exact hS.2.1 _ _ _ rfl | assumption) (by omega) ?_
  rw [rm_sA (by decide)]
  refine ty_aload_n (pc := 20) (i := 0) (ks := []) (by decide +kernel) rfl ?_
  refine ty_getS (b := (68, 0)) (pc := 21) (idx := 60) (ci := 13) (f := 22) (by decide +kernel) (by first | rfl | assumption) rfl (by first | exact hS.1 _ _ rfl | assumption) (by first | exact hS.2.2 _ _ _ _ rfl | assumption) ?_
  refine ty_aload_n (pc := 24) (i := 0) (ks := []) (by decide +kernel) rfl ?_
  refine ty_getI (pc := 25) (idx := 209) (ci := 13) (f := 28) (by decide +kernel) (by first | rfl | assumption) rfl (by first | exact hS.1 _ _ rfl | assumption) (fun v hv => ?_)
  simp (decide := true) only [rm_I, rm_u, rm_w, ty_sI, ty_sR, ty_sA, ty_sQ, ty_mA, ty_mQ, ↓reduceIte, false_and, and_false, true_and, and_true, and_self] at hv
  subst hv
  refine ty_iload_n (pc := 28) (i := 3) (ks := []) (by decide +kernel) rfl ?_
  refine ty_iastore (pc := 29) (ks := []) (by decide +kernel) (by first | rfl | assumption) (by rfl) (by first | exact hS.1 _ _ rfl | assumption) (by first | exact hS.2.1 _ _ _ rfl | assumption) (by omega) ?_
  rw [rm_sA (by decide)]
  refine ty_aload_n (pc := 30) (i := 0) (ks := []) (by decide +kernel) rfl ?_
  refine ty_getS (b := (69, 0)) (pc := 31) (idx := 63) (ci := 13) (f := 23) (by decide +kernel) (by first | rfl | assumption) rfl (by first | exact hS.1 _ _ rfl | assumption) (by first | exact hS.2.2 _ _ _ _ rfl | assumption) ?_
  refine ty_aload_n (pc := 34) (i := 0) (ks := []) (by decide +kernel) rfl ?_
  refine ty_getI (pc := 35) (idx := 209) (ci := 13) (f := 28) (by decide +kernel) (by first | rfl | assumption) rfl (by first | exact hS.1 _ _ rfl | assumption) (fun v hv => ?_)
  simp (decide := true) only [rm_I, rm_u, rm_w, ty_sI, ty_sR, ty_sA, ty_sQ, ty_mA, ty_mQ, ↓reduceIte, false_and, and_false, true_and, and_true, and_self] at hv
  subst hv
  refine ty_iload (pc := 38) (i := 4) (ks := []) (by decide +kernel) rfl ?_
  refine ty_iastore (pc := 40) (ks := []) (by decide +kernel) (by first | rfl | assumption) (by rfl) (by first | exact hS.1 _ _ rfl | assumption) (by first | exact hS.2.1 _ _ _ rfl | assumption) (by omega) ?_
  rw [rm_sA (by decide)]
  refine ty_aload_n (pc := 41) (i := 0) (ks := []) (by decide +kernel) rfl ?_
  refine ty_getS (b := (70, 0)) (pc := 42) (idx := 66) (ci := 13) (f := 24) (by decide +kernel) (by first | rfl | assumption) rfl (by first | exact hS.1 _ _ rfl | assumption) (by first | exact hS.2.2 _ _ _ _ rfl | assumption) ?_
  refine ty_aload_n (pc := 45) (i := 0) (ks := []) (by decide +kernel) rfl ?_
  refine ty_getI (pc := 46) (idx := 209) (ci := 13) (f := 28) (by decide +kernel) (by first | rfl | assumption) rfl (by first | exact hS.1 _ _ rfl | assumption) (fun v hv => ?_)
  simp (decide := true) only [rm_I, rm_u, rm_w, ty_sI, ty_sR, ty_sA, ty_sQ, ty_mA, ty_mQ, ↓reduceIte, false_and, and_false, true_and, and_true, and_self] at hv
  subst hv
  refine ty_iload (pc := 49) (i := 5) (ks := []) (by decide +kernel) rfl ?_
  refine ty_iastore (pc := 51) (ks := []) (by decide +kernel) (by first | rfl | assumption) (by rfl) (by first | exact hS.1 _ _ rfl | assumption) (by first | exact hS.2.1 _ _ _ rfl | assumption) (by omega) ?_
  rw [rm_sA (by decide)]
  refine ty_aload_n (pc := 52) (i := 0) (ks := []) (by decide +kernel) rfl ?_
  refine ty_dup (pc := 53) (ks := []) (by decide +kernel) rfl ?_
  refine ty_getI (pc := 54) (idx := 209) (ci := 13) (f := 28) (by decide +kernel) (by first | rfl | assumption) rfl (by first | exact hS.1 _ _ rfl | assumption) (fun v hv => ?_)
  simp (decide := true) only [rm_I, rm_u, rm_w, ty_sI, ty_sR, ty_sA, ty_sQ, ty_mA, ty_mQ, ↓reduceIte, false_and, and_false, true_and, and_true, and_self] at hv
  subst hv
  refine ty_iconst (pc := 57) (n := 1) (ks := []) (by decide +kernel) ?_
  refine ty_iadd (pc := 58) (ks := []) (by decide +kernel) ?_
  refine ty_putI (pc := 59) (idx := 209) (ci := 13) (f := 28) (by decide +kernel) (by first | rfl | assumption) rfl rfl (by first | exact hS.1 _ _ rfl | assumption) ?_
  rw [rm_sI]
  refine ty_aload_n (pc := 62) (i := 0) (ks := []) (by decide +kernel) rfl ?_
  refine ty_getI (pc := 63) (idx := 209) (ci := 13) (f := 28) (by decide +kernel) (by first | rfl | assumption) rfl (by first | exact hS.1 _ _ rfl | assumption) (fun v hv => ?_)
  simp (decide := true) only [rm_I, rm_u, rm_w, ty_sI, ty_sR, ty_sA, ty_sQ, ty_mA, ty_mQ, ↓reduceIte, false_and, and_false, true_and, and_true, and_self] at hv
  subst hv
  refine ty_iconst (pc := 66) (n := 1) (ks := []) (by decide +kernel) ?_
  refine ty_isub (pc := 67) (ks := []) (by decide +kernel) ?_
  -- at 68: .ireturn
  refine ty_ret_i (pc := 68) (ks := []) (ty := .int) (by decide +kernel) rfl rfl ?_
  exact ⟨_, rfl, by omega, rfl⟩
theorem rm_born (d : Nat) (hS : ty_st S) {v : Int} (hv : I 26 = v) (hr : 0 ≤ v ∧ v < 13000) : ty_C L xs (d + 1) 117 [.inr (.inr (some (94, 0)))] (rm_s S I A) (ty_oI fun z S' => z = v ∧ S' = rm_s S (rm_u (rm_u I 26 (v + 1)) 27 (I 27 + 1)) (rm_w (rm_w (rm_w A 63 v 2147483647) 64 v (-1)) 65 v (-1))) := by
  subst hv
  refine ty_enter (ml := 2) (ls := [_, _]) rfl rfl (Nat.le_of_ble_eq_true rfl) ?_
  refine ty_aload_n (pc := 0) (i := 0) (ks := []) (by decide +kernel) rfl ?_
  refine ty_getI (pc := 1) (idx := 190) (ci := 13) (f := 26) (by decide +kernel) (by first | rfl | assumption) rfl (by first | exact hS.1 _ _ rfl | assumption) (fun v hv => ?_)
  simp (decide := true) only [rm_I, rm_u, rm_w, ty_sI, ty_sR, ty_sA, ty_sQ, ty_mA, ty_mQ, ↓reduceIte, false_and, and_false, true_and, and_true, and_self] at hv
  subst hv
  refine ty_istore_n (pc := 4) (i := 1) (ks := []) (ls' := [_, _]) (by decide +kernel) rfl ?_
  refine ty_aload_n (pc := 5) (i := 0) (ks := []) (by decide +kernel) rfl ?_
  refine ty_getS (b := (63, 0)) (pc := 6) (idx := 45) (ci := 13) (f := 17) (by decide +kernel) (by first | rfl | assumption) rfl (by first | exact hS.1 _ _ rfl | assumption) (by first | exact hS.2.2 _ _ _ _ rfl | assumption) ?_
  refine ty_iload_n (pc := 9) (i := 1) (ks := []) (by decide +kernel) rfl ?_
  refine ty_ldc (pc := 10) (idx := 193) (c := 2147483647) (z := 2147483647) (by decide +kernel) (by decide +kernel) ?_
  refine ty_iastore (pc := 12) (ks := []) (by decide +kernel) (by first | rfl | assumption) (by rfl) (by first | exact hS.1 _ _ rfl | assumption) (by first | exact hS.2.1 _ _ _ rfl | assumption) (by omega) ?_
  rw [rm_sA (by decide)]
  refine ty_aload_n (pc := 13) (i := 0) (ks := []) (by decide +kernel) rfl ?_
  refine ty_getS (b := (64, 0)) (pc := 14) (idx := 48) (ci := 13) (f := 18) (by decide +kernel) (by first | rfl | assumption) rfl (by first | exact hS.1 _ _ rfl | assumption) (by first | exact hS.2.2 _ _ _ _ rfl | assumption) ?_
  refine ty_iload_n (pc := 17) (i := 1) (ks := []) (by decide +kernel) rfl ?_
  refine ty_iconst (pc := 18) (n := (-1)) (ks := []) (by decide +kernel) ?_
  refine ty_iastore (pc := 19) (ks := []) (by decide +kernel) (by first | rfl | assumption) (by rfl) (by first | exact hS.1 _ _ rfl | assumption) (by first | exact hS.2.1 _ _ _ rfl | assumption) (by omega) ?_
  rw [rm_sA (by decide)]
  refine ty_aload_n (pc := 20) (i := 0) (ks := []) (by decide +kernel) rfl ?_
  refine ty_getS (b := (65, 0)) (pc := 21) (idx := 51) (ci := 13) (f := 19) (by decide +kernel) (by first | rfl | assumption) rfl (by first | exact hS.1 _ _ rfl | assumption) (by first | exact hS.2.2 _ _ _ _ rfl | assumption) ?_
  refine ty_iload_n (pc := 24) (i := 1) (ks := []) (by decide +kernel) rfl ?_
  refine ty_iconst (pc := 25) (n := (-1)) (ks := []) (by decide +kernel) ?_
  refine ty_iastore (pc := 26) (ks := []) (by decide +kernel) (by first | rfl | assumption) (by rfl) (by first | exact hS.1 _ _ rfl | assumption) (by first | exact hS.2.1 _ _ _ rfl | assumption) (by omega) ?_
  rw [rm_sA (by decide)]
  refine ty_aload_n (pc := 27) (i := 0) (ks := []) (by decide +kernel) rfl ?_
  refine ty_dup (pc := 28) (ks := []) (by decide +kernel) rfl ?_
  refine ty_getI (pc := 29) (idx := 190) (ci := 13) (f := 26) (by decide +kernel) (by first | rfl | assumption) rfl (by first | exact hS.1 _ _ rfl | assumption) (fun v hv => ?_)
  simp (decide := true) only [rm_I, rm_u, rm_w, ty_sI, ty_sR, ty_sA, ty_sQ, ty_mA, ty_mQ, ↓reduceIte, false_and, and_false, true_and, and_true, and_self] at hv
  subst hv
  refine ty_iconst (pc := 32) (n := 1) (ks := []) (by decide +kernel) ?_
  refine ty_iadd (pc := 33) (ks := []) (by decide +kernel) ?_
  refine ty_putI (pc := 34) (idx := 190) (ci := 13) (f := 26) (by decide +kernel) (by first | rfl | assumption) rfl rfl (by first | exact hS.1 _ _ rfl | assumption) ?_
  rw [rm_sI]
  refine ty_aload_n (pc := 37) (i := 0) (ks := []) (by decide +kernel) rfl ?_
  refine ty_dup (pc := 38) (ks := []) (by decide +kernel) rfl ?_
  refine ty_getI (pc := 39) (idx := 194) (ci := 13) (f := 27) (by decide +kernel) (by first | rfl | assumption) rfl (by first | exact hS.1 _ _ rfl | assumption) (fun v hv => ?_)
  simp (decide := true) only [rm_I, rm_u, rm_w, ty_sI, ty_sR, ty_sA, ty_sQ, ty_mA, ty_mQ, ↓reduceIte, false_and, and_false, true_and, and_true, and_self] at hv
  subst hv
  refine ty_iconst (pc := 42) (n := 1) (ks := []) (by decide +kernel) ?_
  refine ty_iadd (pc := 43) (ks := []) (by decide +kernel) ?_
  refine ty_putI (pc := 44) (idx := 194) (ci := 13) (f := 27) (by decide +kernel) (by first | rfl | assumption) rfl rfl (by first | exact hS.1 _ _ rfl | assumption) ?_
  rw [rm_sI]
  refine ty_iload_n (pc := 47) (i := 1) (ks := []) (by decide +kernel) rfl ?_
  -- at 48: .ireturn
  refine ty_ret_i (pc := 48) (ks := []) (ty := .int) (by decide +kernel) rfl rfl ?_
  exact ⟨_, rfl, rfl, rfl⟩
/-- so many are born: v0 the first, v of them -/
def rm_bn (A : Nat → Int → Int) (v0 v : Int) (mp : Int → Int) : Nat → Int → Int := rm_a (rm_a (rm_a (rm_a A 63 (cm_f (A 63) v0 (v0 + v) 2147483647)) 64 (cm_f (A 64) v0 (v0 + v) (-1))) 65 (cm_f (A 65) v0 (v0 + v) (-1))) 58 mp
theorem rm_w_ne {s q : Nat} {g : Int → Int} {i v : Int} (h : q ≠ s) : rm_w (rm_a A s g) q i v = rm_a (rm_w A q i v) s g := by
  funext r j
  show (if r = q ∧ j = i then v else (if r = s then g else A r) j) = (if r = s then g else fun j => if r = q ∧ j = i then v else A r j) j
  by_cases e : r = s
  · rw [if_pos e, if_pos e, if_neg (fun w => h (w.1.symm.trans e))]
  · rw [if_neg e, if_neg e]
theorem rm_w_self {s : Nat} {i v : Int} : rm_w A s i v = rm_a A s (mo_up (A s) i v) := by
  have := rm_w_a (A := A) (s := s) (g := A s) (i := i) (v := v)
  rw [rm_a_self] at this
  exact this
theorem rm_bn_map {v0 v u w : Int} {mp : Int → Int} : rm_w (rm_bn A v0 v mp) 58 u w = rm_bn A v0 v (mo_up mp u w) := rm_w_a
theorem rm_bn_born {v0 v : Int} {mp : Int → Int} (hv : 0 ≤ v) : rm_w (rm_w (rm_w (rm_bn A v0 v mp) 63 (v0 + v) 2147483647) 64 (v0 + v) (-1)) 65 (v0 + v) (-1) = rm_bn A v0 (v + 1) mp := by
  unfold rm_bn
  rw [rm_w_ne (by decide), rm_w_ne (by decide), rm_w_ne (by decide), rm_w_ne (by decide), rm_w_ne (by decide), rm_w_a, rm_w_ne (by decide), rm_w_a, rm_w_a, cm_f_up (by omega), cm_f_up (by omega), cm_f_up (by omega), show v0 + v + 1 = v0 + (v + 1) by omega]
theorem rm_number (d : Nat) (hS : ty_st S) {bs v0 : Int} {t : List Int} (hsrc : rm_src I A bs t) (hso : I 12 = bs) (hv0 : I 26 = v0) (hr : 0 ≤ v0 ∧ v0 + 26 ≤ 13000) :
    ty_C L xs (d + 2) 116 [.inr (.inr (some (94, 0)))] (rm_s S I A) (ty_oV fun S' => ∃ mp, S' = rm_s S (rm_u (rm_u I 26 (v0 + dk_nv t)) 27 (I 27 + dk_nv t)) (rm_bn A v0 (dk_nv t) mp) ∧ ∀ u : Nat, u < 26 → mp u = if pv_oc (dk_f t) t.length u = true then v0 + pv_r (dk_f t) t.length u else -1) := by
  have h48 := hsrc.2.1
  have hbs := hsrc.2.2.2.1
  have hse := hsrc.1
  have hcl := hsrc.2.2.2.2
  -- a state between
  have st : ∀ (v : Int), rm_u (rm_u I 26 (v0 + v)) 27 (I 27 + v) 12 = bs ∧ rm_u (rm_u I 26 (v0 + v)) 27 (I 27 + v) 13 = bs + t.length ∧ rm_u (rm_u I 26 (v0 + v)) 27 (I 27 + v) 26 = v0 + v := fun v => ⟨hso, hse, rfl⟩
  have up2 : ∀ (v : Int), rm_u (rm_u (rm_u (rm_u I 26 (v0 + v)) 27 (I 27 + v)) 26 (v0 + v + 1)) 27 (I 27 + v + 1) = rm_u (rm_u I 26 (v0 + (v + 1))) 27 (I 27 + (v + 1)) := fun v => by
    funext j
    simp only [rm_u]
    split
    · omega
    · split
      · omega
      · rename_i h1 h2
        rfl
  have outer : ∀ (r u : Nat) (mp : Int → Int) (x2 : Option ai_V), u + r = 26 → (∀ w : Nat, w < u → mp w = if pv_oc (dk_f t) t.length w = true then v0 + pv_r (dk_f t) t.length w else -1) → ty_W L xs (d + 1) 116 2 [some (.inr (.inr (some (94, 0)))), some (.inl (ty_J u)), x2] [] (rm_s S (rm_u (rm_u I 26 (v0 + pv_k (dk_f t) t.length u)) 27 (I 27 + pv_k (dk_f t) t.length u)) (rm_bn A v0 (pv_k (dk_f t) t.length u) mp)) (ty_oV fun S' => ∃ mp, S' = rm_s S (rm_u (rm_u I 26 (v0 + dk_nv t)) 27 (I 27 + dk_nv t)) (rm_bn A v0 (dk_nv t) mp) ∧ ∀ u : Nat, u < 26 → mp u = if pv_oc (dk_f t) t.length u = true then v0 + pv_r (dk_f t) t.length u else -1) := by
    intro r
    induction r with
    | zero =>
      intro u mp x2 hu hmp
      have e : u = 26 := by omega
      subst e
      refine ty_iload_n (pc := 2) (i := 1) (ks := []) (by decide +kernel) rfl ?_
      refine ty_bipush (pc := 3) (n := 26) (ks := []) (by decide +kernel) (by omega) ?_
      -- at 5: .if_icmp .ge 67
      refine ty_icmp_ge (pc := 5) (off := 67) (t := 72) (ks := []) (by decide +kernel) (by omega) (by omega) (fun hc => ?_) (fun hc => ?_)
      · refine ty_ret_v (pc := 72) (ks := []) (by decide +kernel) rfl ?_
        exact ⟨rfl, mp, rfl, hmp⟩
      · omega
    | succ r ih =>
      intro u mp x2 hu hmp
      have hkr := pv_k_r (h := dk_f t) (n := t.length) u
      -- the inner loop: not found before i
      have inner : ∀ (q i : Nat) (mp : Int → Int), i + q = t.length → (∀ w : Nat, w < u → mp w = if pv_oc (dk_f t) t.length w = true then v0 + pv_r (dk_f t) t.length w else -1) → mp u = -1 → pv_oc (dk_f t) i u = false → ty_W L xs (d + 1) 116 20 [some (.inr (.inr (some (94, 0)))), some (.inl (ty_J u)), some (.inl (ty_J (bs + i)))] [] (rm_s S (rm_u (rm_u I 26 (v0 + pv_k (dk_f t) t.length u)) 27 (I 27 + pv_k (dk_f t) t.length u)) (rm_bn A v0 (pv_k (dk_f t) t.length u) mp)) (ty_oV fun S' => ∃ mp, S' = rm_s S (rm_u (rm_u I 26 (v0 + dk_nv t)) 27 (I 27 + dk_nv t)) (rm_bn A v0 (dk_nv t) mp) ∧ ∀ u : Nat, u < 26 → mp u = if pv_oc (dk_f t) t.length u = true then v0 + pv_r (dk_f t) t.length u else -1) := by
        intro q
        induction q with
        | zero =>
          intro i mp hi hmp hmu hoc
          have ei : i = t.length := by omega
          rw [ei] at hoc
          have e1 : pv_k (dk_f t) t.length (u + 1) = pv_k (dk_f t) t.length u := by
            show pv_k (dk_f t) t.length u + (if pv_oc (dk_f t) t.length u = true then 1 else 0) = _
            rw [hoc, if_neg (by decide)]
            omega
          have hsr : rm_u (rm_u I 26 (v0 + pv_k (dk_f t) t.length u)) 27 (I 27 + pv_k (dk_f t) t.length u) 13 = bs + t.length := hse
          refine ty_iload_n (pc := 20) (i := 2) (ks := []) (by decide +kernel) rfl ?_
          refine ty_aload_n (pc := 21) (i := 0) (ks := []) (by decide +kernel) rfl ?_
          refine ty_getI (pc := 22) (idx := 181) (ci := 13) (f := 13) (by decide +kernel) (by first | rfl | assumption) rfl (by first | exact hS.1 _ _ rfl | assumption) (fun v hv => ?_)
          simp (decide := true) only [rm_I, rm_u, rm_w, ty_sI, ty_sR, ty_sA, ty_sQ, ty_mA, ty_mQ, ↓reduceIte, false_and, and_false, true_and, and_true, and_self] at hv
          subst hv
          -- at 25: .if_icmp .ge 41
          rw [hse]
          refine ty_icmp_ge (pc := 25) (off := 41) (t := 66) (ks := []) (by decide +kernel) (by omega) (by omega) (fun hc => ?_) (fun hc => ?_)
          rotate_left
          · omega
          refine ty_iinc (pc := 66) (i := 1) (n := 1) (ks := []) (ls' := [_, _, _]) (by decide +kernel) rfl rfl ?_
          refine ty_goto (pc := 69) (off := (-67)) (t := 2) (ks := []) (by decide +kernel) ?_
          -- at 2: .iload_n 1
          have := ih (u + 1) mp (some (.inl (ty_J (bs + (i : Int))))) (by omega) (fun w hw => by
            by_cases e : w = u
            · subst e
              rw [hoc, if_neg (by decide)]
              exact hmu
            · exact hmp w (by omega))
          rw [e1, show ((u + 1 : Nat) : Int) = (u : Int) + 1 by omega] at this
          exact this
        | succ q iq =>
          intro i mp hi hmp hmu hoc
          have hc9 := hcl i (by omega) (by omega)
          have hcr := dk_f_r hsrc.2.2.1 (p := (i : Int))
          have hAc : (rm_bn A v0 (pv_k (dk_f t) t.length u) mp) 54 = A 54 := rfl
          have hAm : (rm_bn A v0 (pv_k (dk_f t) t.length u) mp) 58 = mp := rfl
          have hmu2 : (rm_bn A v0 (pv_k (dk_f t) t.length u) mp) 58 u = -1 := by rw [hAm]; exact hmu
          have hc2 : (rm_bn A v0 (pv_k (dk_f t) t.length u) mp) 54 (bs + i) = dk_f t i := by rw [hAc]; exact hc9
          have hset := fun w => rm_bn_map (A := A) (v0 := v0) (v := pv_k (dk_f t) t.length u) (mp := mp) (u := u) (w := w)
          have hbb := rm_bn_born (A := A) (v0 := v0) (v := pv_k (dk_f t) t.length u) (mp := mp) hkr.1
          refine ty_iload_n (pc := 20) (i := 2) (ks := []) (by decide +kernel) rfl ?_
          refine ty_aload_n (pc := 21) (i := 0) (ks := []) (by decide +kernel) rfl ?_
          refine ty_getI (pc := 22) (idx := 181) (ci := 13) (f := 13) (by decide +kernel) (by first | rfl | assumption) rfl (by first | exact hS.1 _ _ rfl | assumption) (fun v hv => ?_)
          simp (decide := true) only [rm_I, rm_u, rm_w, ty_sI, ty_sR, ty_sA, ty_sQ, ty_mA, ty_mQ, ↓reduceIte, false_and, and_false, true_and, and_true, and_self] at hv
          subst hv
          -- at 25: .if_icmp .ge 41
          rw [hse]
          refine ty_icmp_ge (pc := 25) (off := 41) (t := 66) (ks := []) (by decide +kernel) (by omega) (by omega) (fun hc => ?_) (fun hc => ?_)
          · omega
          clear hc
          refine ty_aload_n (pc := 28) (i := 0) (ks := []) (by decide +kernel) rfl ?_
          refine ty_getS (b := (58, 0)) (pc := 29) (idx := 25) (ci := 13) (f := 5) (by decide +kernel) (by first | rfl | assumption) rfl (by first | exact hS.1 _ _ rfl | assumption) (by first | exact hS.2.2 _ _ _ _ rfl | assumption) ?_
          refine ty_iload_n (pc := 32) (i := 1) (ks := []) (by decide +kernel) rfl ?_
          refine ty_iaload (pc := 33) (ks := []) (by decide +kernel) (by first | rfl | assumption) (by rfl) (by first | exact hS.1 _ _ rfl | assumption) (by first | exact hS.2.1 _ _ _ rfl | assumption) (by omega) (fun v hv => ?_)
          rw [rm_A (by decide)] at hv
          first | (simp (decide := true) only [rm_w, ty_sI, ty_sR, ty_sA, ty_sQ, ty_mA, ty_mQ, ↓reduceIte, false_and, and_false, true_and, and_true, and_self] at hv) | skip
          subst hv
          -- at 34: .ifCond .ge 32
          rw [hmu2]
          refine ty_if_ge (pc := 34) (off := 32) (t := 66) (ks := []) (by decide +kernel) (by omega) (fun hc => ?_) (fun hc => ?_)
          · omega
          clear hc
          refine ty_aload_n (pc := 37) (i := 0) (ks := []) (by decide +kernel) rfl ?_
          refine ty_getS (b := (54, 0)) (pc := 38) (idx := 13) (ci := 13) (f := 1) (by decide +kernel) (by first | rfl | assumption) rfl (by first | exact hS.1 _ _ rfl | assumption) (by first | exact hS.2.2 _ _ _ _ rfl | assumption) ?_
          refine ty_iload_n (pc := 41) (i := 2) (ks := []) (by decide +kernel) rfl ?_
          refine ty_iaload (pc := 42) (ks := []) (by decide +kernel) (by first | rfl | assumption) (by rfl) (by first | exact hS.1 _ _ rfl | assumption) (by first | exact hS.2.1 _ _ _ rfl | assumption) (by omega) (fun v hv => ?_)
          rw [rm_A (by decide)] at hv
          first | (simp (decide := true) only [rm_w, ty_sI, ty_sR, ty_sA, ty_sQ, ty_mA, ty_mQ, ↓reduceIte, false_and, and_false, true_and, and_true, and_self] at hv) | skip
          subst hv
          refine ty_bipush (pc := 43) (n := 65) (ks := []) (by decide +kernel) (by omega) ?_
          refine ty_iload_n (pc := 45) (i := 1) (ks := []) (by decide +kernel) rfl ?_
          refine ty_iadd (pc := 46) (ks := []) (by decide +kernel) ?_
          -- at 47: .if_icmp .ne 13
          rw [hc2]
          refine ty_icmp_ne (pc := 47) (off := 13) (t := 60) (ks := []) (by decide +kernel) (by omega) (by omega) (fun hc => ?_) (fun hc => ?_)
          · -- not here
            refine ty_iinc (pc := 60) (i := 2) (n := 1) (ks := []) (ls' := [_, _, _]) (by decide +kernel) rfl rfl ?_
            refine ty_goto (pc := 63) (off := (-43)) (t := 20) (ks := []) (by decide +kernel) ?_
            -- at 20: .iload_n 2
            have := iq (i + 1) mp (by omega) hmp hmu (by
              show (pv_oc (dk_f t) i u || decide (dk_f t i = 65 + u)) = false
              rw [hoc, decide_eq_false hc]
              rfl)
            rw [show bs + ((i + 1 : Nat) : Int) = bs + (i : Int) + 1 by omega] at this
            exact this
          · -- here
            have hoc2 : pv_oc (dk_f t) t.length u = true := pv_oc_iff.mpr ⟨i, by omega, hc⟩
            have e1 : pv_k (dk_f t) t.length (u + 1) = pv_k (dk_f t) t.length u + 1 := by
              show pv_k (dk_f t) t.length u + (if pv_oc (dk_f t) t.length u = true then 1 else 0) = _
              rw [hoc2, if_pos rfl]
            clear hc
            refine ty_aload_n (pc := 50) (i := 0) (ks := []) (by decide +kernel) rfl ?_
            refine ty_getS (b := (58, 0)) (pc := 51) (idx := 25) (ci := 13) (f := 5) (by decide +kernel) (by first | rfl | assumption) rfl (by first | exact hS.1 _ _ rfl | assumption) (by first | exact hS.2.2 _ _ _ _ rfl | assumption) ?_
            refine ty_iload_n (pc := 54) (i := 1) (ks := []) (by decide +kernel) rfl ?_
            refine ty_aload_n (pc := 55) (i := 0) (ks := []) (by decide +kernel) rfl ?_
            -- at 56: .invokevirtual 187
            refine ty_callv (pc := 56) (idx := 187) (m := 117) (n := 1) (c := 13) (vs := []) (r := [_, _]) (by decide +kernel) rfl rfl (Nat.le_of_ble_eq_true rfl) (by first | rfl | assumption) (by first | exact hS.1 _ _ rfl | assumption) (rm_born (L := L) (xs := xs) d hS (st (pv_k (dk_f t) t.length u)).2.2 ⟨by omega, by omega⟩) ?_
            rintro _ S1 ⟨z, rfl, rfl, rfl⟩
            refine ty_KI ?_
            rw [hbb]
            have hbo : rm_u (rm_u I 26 (v0 + pv_k (dk_f t) t.length u)) 27 (I 27 + pv_k (dk_f t) t.length u) 27 = I 27 + pv_k (dk_f t) t.length u := if_pos rfl
            rw [hbo, up2]
            refine ty_iastore (pc := 59) (ks := []) (by decide +kernel) (by first | rfl | assumption) (by rfl) (by first | exact hS.1 _ _ rfl | assumption) (by first | exact hS.2.1 _ _ _ rfl | assumption) (by omega) ?_
            rw [rm_sA (by decide)]
            refine ty_iinc (pc := 60) (i := 2) (n := 1) (ks := []) (ls' := [_, _, _]) (by decide +kernel) rfl rfl ?_
            refine ty_goto (pc := 63) (off := (-43)) (t := 20) (ks := []) (by decide +kernel) ?_
            -- at 20: .iload_n 2
            rw [rm_bn_map]
            have hmu3 : (rm_bn A v0 (pv_k (dk_f t) t.length u + 1) (mo_up mp u (v0 + pv_k (dk_f t) t.length u))) 58 u = v0 + pv_k (dk_f t) t.length u := if_pos rfl
            have hfin := ih (u + 1) (mo_up mp u (v0 + pv_k (dk_f t) t.length u)) (some (.inl (ty_J (bs + (i : Int) + 1)))) (by omega) (fun w hw => by
              by_cases e : w = u
              · subst e
                rw [hoc2, if_pos rfl]
                unfold pv_r
                rw [hoc2, if_pos rfl]
                exact if_pos rfl
              · rw [← hmp w (by omega)]
                exact if_neg (by omega))
            rw [e1, show ((u + 1 : Nat) : Int) = (u : Int) + 1 by omega] at hfin
            refine ty_iload_n (pc := 20) (i := 2) (ks := []) (by decide +kernel) rfl ?_
            refine ty_aload_n (pc := 21) (i := 0) (ks := []) (by decide +kernel) rfl ?_
            refine ty_getI (pc := 22) (idx := 181) (ci := 13) (f := 13) (by decide +kernel) (by first | rfl | assumption) rfl (by first | exact hS.1 _ _ rfl | assumption) (fun v hv => ?_)
            simp (decide := true) only [rm_I, rm_u, rm_w, ty_sI, ty_sR, ty_sA, ty_sQ, ty_mA, ty_mQ, ↓reduceIte, false_and, and_false, true_and, and_true, and_self] at hv
            subst hv
            -- at 25: .if_icmp .ge 41
            rw [hse]
            refine ty_icmp_ge (pc := 25) (off := 41) (t := 66) (ks := []) (by decide +kernel) (by omega) (by omega) (fun hc => ?_) (fun hc => ?_)
            · refine ty_iinc (pc := 66) (i := 1) (n := 1) (ks := []) (ls' := [_, _, _]) (by decide +kernel) rfl rfl ?_
              refine ty_goto (pc := 69) (off := (-67)) (t := 2) (ks := []) (by decide +kernel) ?_
              -- at 2: .iload_n 1
              exact hfin
            · refine ty_aload_n (pc := 28) (i := 0) (ks := []) (by decide +kernel) rfl ?_
              refine ty_getS (b := (58, 0)) (pc := 29) (idx := 25) (ci := 13) (f := 5) (by decide +kernel) (by first | rfl | assumption) rfl (by first | exact hS.1 _ _ rfl | assumption) (by first | exact hS.2.2 _ _ _ _ rfl | assumption) ?_
              refine ty_iload_n (pc := 32) (i := 1) (ks := []) (by decide +kernel) rfl ?_
              refine ty_iaload (pc := 33) (ks := []) (by decide +kernel) (by first | rfl | assumption) (by rfl) (by first | exact hS.1 _ _ rfl | assumption) (by first | exact hS.2.1 _ _ _ rfl | assumption) (by omega) (fun v hv => ?_)
              rw [rm_A (by decide)] at hv
              first | (simp (decide := true) only [rm_w, ty_sI, ty_sR, ty_sA, ty_sQ, ty_mA, ty_mQ, ↓reduceIte, false_and, and_false, true_and, and_true, and_self] at hv) | skip
              subst hv
              -- at 34: .ifCond .ge 32
              rw [hmu3]
              refine ty_if_ge (pc := 34) (off := 32) (t := 66) (ks := []) (by decide +kernel) (by omega) (fun hc => ?_) (fun hc => ?_)
              · refine ty_iinc (pc := 66) (i := 1) (n := 1) (ks := []) (ls' := [_, _, _]) (by decide +kernel) rfl rfl ?_
                refine ty_goto (pc := 69) (off := (-67)) (t := 2) (ks := []) (by decide +kernel) ?_
                -- at 2: .iload_n 1
                exact hfin
              · omega
      have hset := fun w => rm_bn_map (A := A) (v0 := v0) (v := pv_k (dk_f t) t.length u) (mp := mp) (u := u) (w := w)
      refine ty_iload_n (pc := 2) (i := 1) (ks := []) (by decide +kernel) rfl ?_
      refine ty_bipush (pc := 3) (n := 26) (ks := []) (by decide +kernel) (by omega) ?_
      -- at 5: .if_icmp .ge 67
      refine ty_icmp_ge (pc := 5) (off := 67) (t := 72) (ks := []) (by decide +kernel) (by omega) (by omega) (fun hc => ?_) (fun hc => ?_)
      · omega
      clear hc
      refine ty_aload_n (pc := 8) (i := 0) (ks := []) (by decide +kernel) rfl ?_
      refine ty_getS (b := (58, 0)) (pc := 9) (idx := 25) (ci := 13) (f := 5) (by decide +kernel) (by first | rfl | assumption) rfl (by first | exact hS.1 _ _ rfl | assumption) (by first | exact hS.2.2 _ _ _ _ rfl | assumption) ?_
      refine ty_iload_n (pc := 12) (i := 1) (ks := []) (by decide +kernel) rfl ?_
      refine ty_iconst (pc := 13) (n := (-1)) (ks := []) (by decide +kernel) ?_
      refine ty_iastore (pc := 14) (ks := []) (by decide +kernel) (by first | rfl | assumption) (by rfl) (by first | exact hS.1 _ _ rfl | assumption) (by first | exact hS.2.1 _ _ _ rfl | assumption) (by omega) ?_
      rw [rm_sA (by decide)]
      refine ty_aload_n (pc := 15) (i := 0) (ks := []) (by decide +kernel) rfl ?_
      refine ty_getI (pc := 16) (idx := 184) (ci := 13) (f := 12) (by decide +kernel) (by first | rfl | assumption) rfl (by first | exact hS.1 _ _ rfl | assumption) (fun v hv => ?_)
      simp (decide := true) only [rm_I, rm_u, rm_w, ty_sI, ty_sR, ty_sA, ty_sQ, ty_mA, ty_mQ, ↓reduceIte, false_and, and_false, true_and, and_true, and_self] at hv
      subst hv
      refine ty_istore_n (pc := 19) (i := 2) (ks := []) (ls' := [_, _, _]) (by decide +kernel) rfl ?_
      -- at 20: .iload_n 2
      rw [hset, hso]
      have := inner t.length 0 (mo_up mp u (-1)) (by omega) (fun w hw => by
        rw [← hmp w hw]
        exact if_neg (by omega)) (if_pos rfl) rfl
      rw [show bs + ((0 : Nat) : Int) = bs by omega] at this
      exact this
  have h00 : rm_u (rm_u I 26 (v0 + pv_k (dk_f t) t.length 0)) 27 (I 27 + pv_k (dk_f t) t.length 0) = I := by
    have e0 : pv_k (dk_f t) t.length 0 = 0 := rfl
    rw [e0, Int.add_zero, Int.add_zero, ← hv0, rm_u_self, rm_u_self]
  have hA0 : rm_bn A v0 (pv_k (dk_f t) t.length 0) (A 58) = A := by
    have e0 : pv_k (dk_f t) t.length 0 = 0 := rfl
    have ef : ∀ (f : Int → Int) (x : Int), cm_f f v0 (v0 + 0) x = f := fun f x => by
      funext j
      exact if_neg (by omega)
    unfold rm_bn
    rw [e0, ef, ef, ef, rm_a_self, rm_a_self, rm_a_self, rm_a_self]
  have := outer 26 0 (A 58) none rfl (fun w hw => by omega)
  rw [h00, hA0] at this
  refine ty_enter (ml := 3) (ls := [_, _, _]) rfl rfl (Nat.le_of_ble_eq_true rfl) ?_
  refine ty_iconst (pc := 0) (n := 0) (ks := []) (by decide +kernel) ?_
  refine ty_istore_n (pc := 1) (i := 1) (ks := []) (ls' := [_, _, _]) (by decide +kernel) rfl ?_
  -- at 2: .iload_n 1
  exact this
end RMG
