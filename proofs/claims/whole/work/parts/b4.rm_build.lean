/-! The reference builds a term. -/
/-- the class's term t, as a value: variables are below 0 -/
def rm_nf (G : mo_G) (t : Int) : Int := if 65 ≤ mo_l G t ∧ mo_l G t ≤ 90 then -1 - mo_v G t else t
/-- x stands for t; tau tells what cells stand for -/
def rm_t (G : mo_G) (ta : Int → Int) (nc : Int) (x t : Int) : Prop := (x < 0 ∧ x = rm_nf G t) ∨ (0 ≤ x ∧ x < nc ∧ ta x = rm_nf G t)
def rm_cell (G : mo_G) (made : Int) (ta : Int → Int) (nc : Int) (A : Nat → Int → Int) (c : Int) : Prop := mo_ok G made (ta c) ∧ ¬ (65 ≤ mo_l G (ta c) ∧ mo_l G (ta c) ≤ 90) ∧ A 60 c = mo_l G (ta c) ∧ A 61 c = mo_a G (ta c) ∧ ∀ k, 0 ≤ k → k < mo_a G (ta c) → rm_t G ta nc (A 62 (c * 3 + k)) (mo_g G (ta c) k)
theorem rm_t_up {G : mo_G} {ta ta' : Int → Int} {nc nc' x t : Int} (h : rm_t G ta nc x t) (hn : nc ≤ nc') (he : ∀ c, 0 ≤ c → c < nc → ta' c = ta c) : rm_t G ta' nc' x t := by
  rcases h with z | ⟨z1, z2, z3⟩
  · exact .inl z
  · exact .inr ⟨z1, by omega, by rw [he x z1 z2]; exact z3⟩
section RMB
variable {L : Nat} {xs : Nat → Int32} {S : ty_S} {I : Nat → Int} {A : Nat → Int → Int}
/-- a text stands in the clauses' row from bs on -/
def rm_src (I : Nat → Int) (A : Nat → Int → Int) (bs : Int) (t : List Int) : Prop := I 13 = bs + t.length ∧ t.length ≤ 48 ∧ (∀ c ∈ t, 33 ≤ c ∧ c ≤ 126) ∧ (0 ≤ bs ∧ bs ≤ 576) ∧ ∀ p : Int, 0 ≤ p → p < t.length → A 54 (bs + p) = dk_f t p
theorem rm_at (d : Nat) (hS : ty_st S) {bs : Int} {t : List Int} (h : rm_src I A bs t) {p q : Int} (hp : 0 ≤ p ∧ p ≤ 60) (hq : q = bs + p) : ty_C L xs (d + 1) 119 [.inr (.inr (some (94, 0))), .inl (ty_J q)] (rm_s S I A) (ty_oI fun z S' => z = dk_f t p ∧ S' = rm_s S I A) := by
  obtain ⟨h1, h2, h3, h4, h5⟩ := h
  have hr : 0 ≤ I 13 ∧ I 13 ≤ 624 := by rw [h1]; omega
  refine ty_enter (ml := 2) (ls := [_, _]) rfl rfl (Nat.le_of_ble_eq_true rfl) ?_
  refine ty_iload_n (pc := 0) (i := 1) (ks := []) (by decide +kernel) rfl ?_
  refine ty_aload_n (pc := 1) (i := 0) (ks := []) (by decide +kernel) rfl ?_
  refine ty_getI (pc := 2) (idx := 181) (ci := 13) (f := 13) (by decide +kernel) (by first | rfl | assumption) rfl (by first | exact hS.1 _ _ rfl | assumption) (fun v hv => ?_)
  simp (decide := true) only [rm_I, rm_u, rm_w, ty_sI, ty_sR, ty_sA, ty_sQ, ty_mA, ty_mQ, ↓reduceIte, false_and, and_false, true_and, and_true, and_self] at hv
  subst hv
  -- at 5: .if_icmp .ge 12
  refine ty_icmp_ge (pc := 5) (off := 12) (t := 17) (ks := []) (by decide +kernel) (by omega) (by omega) (fun hc => ?_) (fun hc => ?_)
  · refine ty_iconst (pc := 17) (n := 0) (ks := []) (by decide +kernel) ?_
    -- at 18: .ireturn
    refine ty_ret_i (pc := 18) (ks := []) (ty := .int) (by decide +kernel) rfl rfl ?_
    exact ⟨_, rfl, by rw [dk_f_n (by omega)], rfl⟩
  · refine ty_aload_n (pc := 8) (i := 0) (ks := []) (by decide +kernel) rfl ?_
    refine ty_getS (b := (54, 0)) (pc := 9) (idx := 13) (ci := 13) (f := 1) (by decide +kernel) (by first | rfl | assumption) rfl (by first | exact hS.1 _ _ rfl | assumption) (by first | exact hS.2.2 _ _ _ _ rfl | assumption) ?_
    refine ty_iload_n (pc := 12) (i := 1) (ks := []) (by decide +kernel) rfl ?_
    refine ty_iaload (pc := 13) (ks := []) (by decide +kernel) (by first | rfl | assumption) (by rfl) (by first | exact hS.1 _ _ rfl | assumption) (by first | exact hS.2.1 _ _ _ rfl | assumption) (by omega) (fun v hv => ?_)
    rw [rm_A (by decide)] at hv
    first | (simp (decide := true) only [rm_w, ty_sI, ty_sR, ty_sA, ty_sQ, ty_mA, ty_mQ, ↓reduceIte, false_and, and_false, true_and, and_true, and_self] at hv) | skip
    subst hv
    refine ty_goto (pc := 14) (off := 4) (t := 18) (ks := []) (by decide +kernel) ?_
    -- at 18: .ireturn
    refine ty_ret_i (pc := 18) (ks := []) (ty := .int) (by decide +kernel) rfl rfl ?_
    exact ⟨_, rfl, by rw [hq]; exact h5 p hp.1 (by omega), rfl⟩
theorem rm_cellM (d : Nat) (hS : ty_st S) {c nc : Int} (hn : I 25 = nc) (hr : 0 ≤ nc ∧ nc < 24000) : ty_C L xs (d + 1) 122 [.inr (.inr (some (94, 0))), .inl (ty_J c)] (rm_s S I A) (ty_oI fun z S' => z = nc ∧ S' = rm_s S (rm_u I 25 (nc + 1)) (rm_w (rm_w A 60 nc c) 61 nc 0)) := by
  subst hn
  refine ty_enter (ml := 2) (ls := [_, _]) rfl rfl (Nat.le_of_ble_eq_true rfl) ?_
  refine ty_aload_n (pc := 0) (i := 0) (ks := []) (by decide +kernel) rfl ?_
  refine ty_getS (b := (60, 0)) (pc := 1) (idx := 35) (ci := 13) (f := 14) (by decide +kernel) (by first | rfl | assumption) rfl (by first | exact hS.1 _ _ rfl | assumption) (by first | exact hS.2.2 _ _ _ _ rfl | assumption) ?_
  refine ty_aload_n (pc := 4) (i := 0) (ks := []) (by decide +kernel) rfl ?_
  refine ty_getI (pc := 5) (idx := 196) (ci := 13) (f := 25) (by decide +kernel) (by first | rfl | assumption) rfl (by first | exact hS.1 _ _ rfl | assumption) (fun v hv => ?_)
  simp (decide := true) only [rm_I, rm_u, rm_w, ty_sI, ty_sR, ty_sA, ty_sQ, ty_mA, ty_mQ, ↓reduceIte, false_and, and_false, true_and, and_true, and_self] at hv
  subst hv
  refine ty_iload_n (pc := 8) (i := 1) (ks := []) (by decide +kernel) rfl ?_
  refine ty_iastore (pc := 9) (ks := []) (by decide +kernel) (by first | rfl | assumption) (by rfl) (by first | exact hS.1 _ _ rfl | assumption) (by first | exact hS.2.1 _ _ _ rfl | assumption) (by omega) ?_
  rw [rm_sA (by decide)]
  refine ty_aload_n (pc := 10) (i := 0) (ks := []) (by decide +kernel) rfl ?_
  refine ty_getS (b := (61, 0)) (pc := 11) (idx := 38) (ci := 13) (f := 15) (by decide +kernel) (by first | rfl | assumption) rfl (by first | exact hS.1 _ _ rfl | assumption) (by first | exact hS.2.2 _ _ _ _ rfl | assumption) ?_
  refine ty_aload_n (pc := 14) (i := 0) (ks := []) (by decide +kernel) rfl ?_
  refine ty_getI (pc := 15) (idx := 196) (ci := 13) (f := 25) (by decide +kernel) (by first | rfl | assumption) rfl (by first | exact hS.1 _ _ rfl | assumption) (fun v hv => ?_)
  simp (decide := true) only [rm_I, rm_u, rm_w, ty_sI, ty_sR, ty_sA, ty_sQ, ty_mA, ty_mQ, ↓reduceIte, false_and, and_false, true_and, and_true, and_self] at hv
  subst hv
  refine ty_iconst (pc := 18) (n := 0) (ks := []) (by decide +kernel) ?_
  refine ty_iastore (pc := 19) (ks := []) (by decide +kernel) (by first | rfl | assumption) (by rfl) (by first | exact hS.1 _ _ rfl | assumption) (by first | exact hS.2.1 _ _ _ rfl | assumption) (by omega) ?_
  rw [rm_sA (by decide)]
  refine ty_aload_n (pc := 20) (i := 0) (ks := []) (by decide +kernel) rfl ?_
  refine ty_dup (pc := 21) (ks := []) (by decide +kernel) rfl ?_
  refine ty_getI (pc := 22) (idx := 196) (ci := 13) (f := 25) (by decide +kernel) (by first | rfl | assumption) rfl (by first | exact hS.1 _ _ rfl | assumption) (fun v hv => ?_)
  simp (decide := true) only [rm_I, rm_u, rm_w, ty_sI, ty_sR, ty_sA, ty_sQ, ty_mA, ty_mQ, ↓reduceIte, false_and, and_false, true_and, and_true, and_self] at hv
  subst hv
  refine ty_iconst (pc := 25) (n := 1) (ks := []) (by decide +kernel) ?_
  refine ty_iadd (pc := 26) (ks := []) (by decide +kernel) ?_
  refine ty_putI (pc := 27) (idx := 196) (ci := 13) (f := 25) (by decide +kernel) (by first | rfl | assumption) rfl rfl (by first | exact hS.1 _ _ rfl | assumption) ?_
  rw [rm_sI]
  refine ty_aload_n (pc := 30) (i := 0) (ks := []) (by decide +kernel) rfl ?_
  refine ty_getI (pc := 31) (idx := 196) (ci := 13) (f := 25) (by decide +kernel) (by first | rfl | assumption) rfl (by first | exact hS.1 _ _ rfl | assumption) (fun v hv => ?_)
  simp (decide := true) only [rm_I, rm_u, rm_w, ty_sI, ty_sR, ty_sA, ty_sQ, ty_mA, ty_mQ, ↓reduceIte, false_and, and_false, true_and, and_true, and_self] at hv
  subst hv
  refine ty_iconst (pc := 34) (n := 1) (ks := []) (by decide +kernel) ?_
  refine ty_isub (pc := 35) (ks := []) (by decide +kernel) ?_
  -- at 36: .ireturn
  refine ty_ret_i (pc := 36) (ks := []) (ty := .int) (by decide +kernel) rfl rfl ?_
  exact ⟨_, rfl, by omega, rfl⟩
theorem rm_hang (d : Nat) (hS : ty_st S) {D x f ct : Int} (hD : 0 ≤ D ∧ D < 8) (hf : A 56 D = f) (hfr : 0 ≤ f ∧ f < 24000) (hct : A 61 f = ct) (hcr : 0 ≤ ct ∧ ct < 3) : ty_C L xs (d + 1) 123 [.inr (.inr (some (94, 0))), .inl (ty_J D), .inl (ty_J x)] (rm_s S I A) (ty_oV fun S' => S' = rm_s S I (rm_w (rm_w A 62 (f * 3 + ct) x) 61 f (ct + 1))) := by
  subst hf
  subst hct
  refine ty_enter (ml := 4) (ls := [_, _, _, _]) rfl rfl (Nat.le_of_ble_eq_true rfl) ?_
  refine ty_aload_n (pc := 0) (i := 0) (ks := []) (by decide +kernel) rfl ?_
  refine ty_getS (b := (56, 0)) (pc := 1) (idx := 19) (ci := 13) (f := 3) (by decide +kernel) (by first | rfl | assumption) rfl (by first | exact hS.1 _ _ rfl | assumption) (by first | exact hS.2.2 _ _ _ _ rfl | assumption) ?_
  refine ty_iload_n (pc := 4) (i := 1) (ks := []) (by decide +kernel) rfl ?_
  refine ty_iaload (pc := 5) (ks := []) (by decide +kernel) (by first | rfl | assumption) (by rfl) (by first | exact hS.1 _ _ rfl | assumption) (by first | exact hS.2.1 _ _ _ rfl | assumption) (by omega) (fun v hv => ?_)
  rw [rm_A (by decide)] at hv
  first | (simp (decide := true) only [rm_w, ty_sI, ty_sR, ty_sA, ty_sQ, ty_mA, ty_mQ, ↓reduceIte, false_and, and_false, true_and, and_true, and_self] at hv) | skip
  subst hv
  refine ty_istore_n (pc := 6) (i := 3) (ks := []) (ls' := [_, _, _, _]) (by decide +kernel) rfl ?_
  refine ty_aload_n (pc := 7) (i := 0) (ks := []) (by decide +kernel) rfl ?_
  refine ty_getS (b := (62, 0)) (pc := 8) (idx := 42) (ci := 13) (f := 16) (by decide +kernel) (by first | rfl | assumption) rfl (by first | exact hS.1 _ _ rfl | assumption) (by first | exact hS.2.2 _ _ _ _ rfl | assumption) ?_
  refine ty_iload_n (pc := 11) (i := 3) (ks := []) (by decide +kernel) rfl ?_
  refine ty_iconst (pc := 12) (n := 3) (ks := []) (by decide +kernel) ?_
  refine ty_imul (pc := 13) (ks := []) (by decide +kernel) ?_
  refine ty_aload_n (pc := 14) (i := 0) (ks := []) (by decide +kernel) rfl ?_
  refine ty_getS (b := (61, 0)) (pc := 15) (idx := 38) (ci := 13) (f := 15) (by decide +kernel) (by first | rfl | assumption) rfl (by first | exact hS.1 _ _ rfl | assumption) (by first | exact hS.2.2 _ _ _ _ rfl | assumption) ?_
  refine ty_iload_n (pc := 18) (i := 3) (ks := []) (by decide +kernel) rfl ?_
  refine ty_iaload (pc := 19) (ks := []) (by decide +kernel) (by first | rfl | assumption) (by rfl) (by first | exact hS.1 _ _ rfl | assumption) (by first | exact hS.2.1 _ _ _ rfl | assumption) (by omega) (fun v hv => ?_)
  rw [rm_A (by decide)] at hv
  first | (simp (decide := true) only [rm_w, ty_sI, ty_sR, ty_sA, ty_sQ, ty_mA, ty_mQ, ↓reduceIte, false_and, and_false, true_and, and_true, and_self] at hv) | skip
  subst hv
  refine ty_iadd (pc := 20) (ks := []) (by decide +kernel) ?_
  refine ty_iload_n (pc := 21) (i := 2) (ks := []) (by decide +kernel) rfl ?_
  refine ty_iastore (pc := 22) (ks := []) (by decide +kernel) (by first | rfl | assumption) (by rfl) (by first | exact hS.1 _ _ rfl | assumption) (by first | exact hS.2.1 _ _ _ rfl | assumption) (by omega) ?_
  rw [rm_sA (by decide)]
  refine ty_aload_n (pc := 23) (i := 0) (ks := []) (by decide +kernel) rfl ?_
  refine ty_getS (b := (61, 0)) (pc := 24) (idx := 38) (ci := 13) (f := 15) (by decide +kernel) (by first | rfl | assumption) rfl (by first | exact hS.1 _ _ rfl | assumption) (by first | exact hS.2.2 _ _ _ _ rfl | assumption) ?_
  refine ty_iload_n (pc := 27) (i := 3) (ks := []) (by decide +kernel) rfl ?_
  refine ty_dup2 (pc := 28) (ks := []) (by decide +kernel) rfl rfl ?_
  refine ty_iaload (pc := 29) (ks := []) (by decide +kernel) (by first | rfl | assumption) (by rfl) (by first | exact hS.1 _ _ rfl | assumption) (by first | exact hS.2.1 _ _ _ rfl | assumption) (by omega) (fun v hv => ?_)
  rw [rm_A (by decide)] at hv
  first | (simp (decide := true) only [rm_w, ty_sI, ty_sR, ty_sA, ty_sQ, ty_mA, ty_mQ, ↓reduceIte, false_and, and_false, true_and, and_true, and_self] at hv) | skip
  subst hv
  refine ty_iconst (pc := 30) (n := 1) (ks := []) (by decide +kernel) ?_
  refine ty_iadd (pc := 31) (ks := []) (by decide +kernel) ?_
  refine ty_iastore (pc := 32) (ks := []) (by decide +kernel) (by first | rfl | assumption) (by rfl) (by first | exact hS.1 _ _ rfl | assumption) (by first | exact hS.2.1 _ _ _ rfl | assumption) (by omega) ?_
  rw [rm_sA (by decide)]
  -- at 33: .return_
  refine ty_ret_v (pc := 33) (ks := []) (by decide +kernel) rfl ?_
  exact ⟨rfl, rfl⟩
/-- what building a term leaves: x stands for T p -/
def bt_post (G : mo_G) (made : Int) (T : Int → Int) (bs : Int) (D : Nat) (p p' nc : Int) (I : Nat → Int) (A : Nat → Int → Int) (ta : Int → Int) (I' : Nat → Int) (A' : Nat → Int → Int) (ta' : Int → Int) (nc' x : Int) : Prop :=
  (∀ k, k ≠ 12 → k ≠ 25 → I' k = I k) ∧ (∀ q, q ≠ 60 → q ≠ 61 → q ≠ 62 → q ≠ 56 → A' q = A q) ∧ (I' 12 = bs + p' ∧ I' 25 = nc' ∧ nc ≤ nc' ∧ 2 * (nc' - nc) ≤ p' - p + 1) ∧
  (∀ c, 0 ≤ c → c < nc → A' 60 c = A 60 c ∧ ta' c = ta c ∧ A' 61 c = (if 0 < D ∧ c = A 56 D then A 61 c + 1 else A 61 c)) ∧ (∀ j, 0 ≤ j → j < nc * 3 → A' 62 j = if 0 < D ∧ j = A 56 D * 3 + A 61 (A 56 D) then x else A 62 j) ∧ (∀ j, j ≤ (D : Int) → A' 56 j = A 56 j) ∧
  (∀ c, nc ≤ c → c < nc' → rm_cell G made ta' nc' A' c) ∧ rm_t G ta' nc' x (T p) ∧ (x < 0 ∨ x = nc)
/-- what is known of the text's nodes -/
def bt_T (G : mo_G) (made : Int) (T : Int → Int) (h : Int → Int) (mp : Int → Int) (NN : pt_N) : Prop := ∀ q as, (q, as) ∈ NN → mo_ok G made (T q) ∧ mo_l G (T q) = h q ∧ mo_a G (T q) = as.length ∧ (∀ (k : Nat) (a : Int), as[k]? = some a → mo_g G (T q) k = T a) ∧ (65 ≤ h q ∧ h q ≤ 90 → mo_v G (T q) = mp (h q - 65))
theorem rm_src_e {bs : Int} {t : List Int} (h : rm_src I A bs t) {I' : Nat → Int} {A' : Nat → Int → Int} (h1 : I' 13 = I 13) (h2 : A' 54 = A 54) : rm_src I' A' bs t := by
  obtain ⟨a1, a2, a3, a4, a5⟩ := h
  exact ⟨by rw [h1]; exact a1, a2, a3, a4, by rw [h2]; exact a5⟩
theorem rm_cell_keep {G : mo_G} {made : Int} {ta ta' : Int → Int} {nc nc' c : Int} {A' : Nat → Int → Int} (h : rm_cell G made ta nc A c) (hc : 0 ≤ c ∧ c < nc) (hn : nc ≤ nc') (he : ∀ c, 0 ≤ c → c < nc → ta' c = ta c) (h1 : A' 60 c = A 60 c) (h2 : A' 61 c = A 61 c) (h3 : ∀ k, 0 ≤ k → k < 3 → A' 62 (c * 3 + k) = A 62 (c * 3 + k)) (ha : mo_a G (ta c) ≤ 3) : rm_cell G made ta' nc' A' c := by
  obtain ⟨a1, a2, a3, a4, a5⟩ := h
  unfold rm_cell
  rw [he c hc.1 hc.2, h1, h2]
  refine ⟨a1, a2, a3, a4, fun k k0 k1 => ?_⟩
  rw [h3 k k0 (by omega)]
  exact rm_t_up (a5 k k0 k1) hn he
/-- arguments, once terms are known one level down; the open one is f -/
theorem bt_args (d : Nat) (hS : ty_st S) {G : mo_G} {made bs : Int} {T : Int → Int} {t : List Int} {mp : Int → Int} {NN : pt_N} (hw : mo_wf G) (hT : bt_T G made T (dk_f t) mp NN) {Q : ai_O → ty_S → Prop} (D m : Nat) (hD : D ≤ 5)
    (ht : ∀ (p nc : Int) (I : Nat → Int) (A : Nat → Int → Int) (ta : Int → Int) (x2 x3 : Option ai_V), rm_src I A bs t → (∀ u, 0 ≤ u → u < 26 → A 58 u = mp u) → 0 ≤ p → p ≤ t.length → I 12 = bs + p → I 25 = nc → 0 ≤ nc → nc + (t.length - p) < 24000 → (0 ≤ A 56 ((D + 1 : Nat) : Int) ∧ A 56 ((D + 1 : Nat) : Int) < nc ∧ 0 ≤ A 61 (A 56 ((D + 1 : Nat) : Int)) ∧ A 61 (A 56 ((D + 1 : Nat) : Int)) < 3) → (pt_t (dk_f t) m p).1 = true → (∀ q as, (q, as) ∈ (pt_t (dk_f t) m p).2.2 → (q, as) ∈ NN) → dk_f t (pt_t (dk_f t) m p).2.1 ≠ 40 →
      (∀ I' A' ta' nc' x (x2 : Int32), bt_post G made T bs (D + 1) p (pt_t (dk_f t) m p).2.1 nc I A ta I' A' ta' nc' x → ty_W L xs (d + 1) 121 102 [some (.inr (.inr (some (94, 0)))), some (.inl (ty_J ((D + 1 : Nat) : Int))), some (.inl x2), some (.inl (ty_J x))] [] (rm_s S I' A') Q) → ty_W L xs (d + 1) 121 2 [some (.inr (.inr (some (94, 0)))), some (.inl (ty_J ((D + 1 : Nat) : Int))), x2, x3] [] (rm_s S I A) Q) :
    ∀ (r : Nat) (k p nc f : Int) (I : Nat → Int) (A : Nat → Int → Int) (ta : Int → Int) (x2 x3 : Option ai_V), rm_src I A bs t → (∀ u, 0 ≤ u → u < 26 → A 58 u = mp u) → 0 ≤ p → p ≤ t.length → I 12 = bs + p → I 25 = nc → 0 ≤ nc → nc + (t.length - p) < 24000 → 0 ≤ k → k + r ≤ 3 → A 56 ((D + 1 : Nat) : Int) = f → 0 ≤ f → f < nc → A 61 f = k → (pt_a (dk_f t) (pt_t (dk_f t) m) r p).1 = true → (∀ q as, (q, as) ∈ (pt_a (dk_f t) (pt_t (dk_f t) m) r p).2.2.2 → (q, as) ∈ NN) →
      (∀ I' A' ta' nc' (x2 : Int32), (∀ k, k ≠ 12 → k ≠ 25 → I' k = I k) → (∀ q, q ≠ 60 → q ≠ 61 → q ≠ 62 → q ≠ 56 → A' q = A q) → (I' 12 = bs + (pt_a (dk_f t) (pt_t (dk_f t) m) r p).2.1 ∧ I' 25 = nc' ∧ nc ≤ nc' ∧ 2 * (nc' - nc) ≤ (pt_a (dk_f t) (pt_t (dk_f t) m) r p).2.1 - p) → (∀ c, 0 ≤ c → c < nc → A' 60 c = A 60 c ∧ ta' c = ta c ∧ (c ≠ f → A' 61 c = A 61 c)) → A' 61 f = k + (pt_a (dk_f t) (pt_t (dk_f t) m) r p).2.2.1.length → (∀ j, 0 ≤ j → j < nc * 3 → ¬ (f * 3 + k ≤ j ∧ j < f * 3 + 3) → A' 62 j = A 62 j) → (∀ (i : Nat) (a : Int), (pt_a (dk_f t) (pt_t (dk_f t) m) r p).2.2.1[i]? = some a → rm_t G ta' nc' (A' 62 (f * 3 + k + i)) (T a)) → (∀ j, j ≤ ((D + 1 : Nat) : Int) → A' 56 j = A 56 j) → (∀ c, nc ≤ c → c < nc' → rm_cell G made ta' nc' A' c) →
        ty_W L xs (d + 1) 121 102 [some (.inr (.inr (some (94, 0)))), some (.inl (ty_J D)), some (.inl x2), some (.inl (ty_J f))] [] (rm_s S I' A') Q) →
      ty_W L xs (d + 1) 121 2 [some (.inr (.inr (some (94, 0)))), some (.inl (ty_J ((D + 1 : Nat) : Int))), x2, x3] [] (rm_s S I A) Q := by
  have hn : ∀ p, (t.length : Int) ≤ p → dk_f t p = 0 := fun p hp => dk_f_n hp
  intro r
  induction r with
  | zero => intro k p nc f I A ta x2 x3 _ _ _ _ _ _ _ _ _ _ _ _ _ _ hok; exact absurd (show false = true from hok) (by decide)
  | succ r ih =>
    intro k p nc f I A ta x2 x3 hsrc hmp h0 h1 hso hce hnc hncr hk hkr hop hf0 hf1 hct hok hNN cont
    obtain ⟨s1, s2, s3⟩ := pt_t_spec hn m p h0 h1
    have step : pt_a (dk_f t) (pt_t (dk_f t) m) (r + 1) p = if (pt_t (dk_f t) m p).1 = false then (false, (pt_t (dk_f t) m p).2.1, [p], (pt_t (dk_f t) m p).2.2)
      else if dk_f t (pt_t (dk_f t) m p).2.1 = 41 then (true, (pt_t (dk_f t) m p).2.1 + 1, [p], (pt_t (dk_f t) m p).2.2)
      else if r = 0 ∨ dk_f t (pt_t (dk_f t) m p).2.1 ≠ 44 then (false, (pt_t (dk_f t) m p).2.1, [p], (pt_t (dk_f t) m p).2.2)
      else ((pt_a (dk_f t) (pt_t (dk_f t) m) r ((pt_t (dk_f t) m p).2.1 + 1)).1, (pt_a (dk_f t) (pt_t (dk_f t) m) r ((pt_t (dk_f t) m p).2.1 + 1)).2.1, p :: (pt_a (dk_f t) (pt_t (dk_f t) m) r ((pt_t (dk_f t) m p).2.1 + 1)).2.2.1, (pt_t (dk_f t) m p).2.2 ++ (pt_a (dk_f t) (pt_t (dk_f t) m) r ((pt_t (dk_f t) m p).2.1 + 1)).2.2.2) := rfl
    rw [step] at hok hNN cont
    clear step
    have htk : (pt_t (dk_f t) m p).1 = true := by
      cases e : (pt_t (dk_f t) m p).1 with
      | true => rfl
      | false => rw [if_pos e] at hok; exact absurd (show false = true from hok) (by decide)
    rw [if_neg (by rw [htk]; decide)] at hok hNN cont
    obtain ⟨s4, s5, s6⟩ := s3 htk
    have hsub : ∀ q as, (q, as) ∈ (pt_t (dk_f t) m p).2.2 → (q, as) ∈ NN := by
      by_cases e1 : dk_f t (pt_t (dk_f t) m p).2.1 = 41
      · rw [if_pos e1] at hNN
        exact hNN
      · rw [if_neg e1] at hNN hok
        by_cases e2 : r = 0 ∨ dk_f t (pt_t (dk_f t) m p).2.1 ≠ 44
        · rw [if_pos e2] at hok
          exact absurd (show false = true from hok) (by decide)
        · rw [if_neg e2] at hNN
          exact fun q as hm => hNN q as (List.mem_append.mpr (.inl hm))
    have h40 : dk_f t (pt_t (dk_f t) m p).2.1 ≠ 40 := by
      by_cases e1 : dk_f t (pt_t (dk_f t) m p).2.1 = 41
      · omega
      · rw [if_neg e1] at hok
        by_cases e2 : r = 0 ∨ dk_f t (pt_t (dk_f t) m p).2.1 ≠ 44
        · rw [if_pos e2] at hok
          exact absurd (show false = true from hok) (by decide)
        · omega
    refine ht p nc I A ta x2 x3 hsrc hmp h0 h1 hso hce hnc hncr (by rw [hop, hct]; omega) htk hsub h40 ?_
    clear ht
    intro I1 A1 ta1 nc1 x y2 hpost
    obtain ⟨b1, b2, ⟨b3, b4, b5, b6⟩, b7, b8, b9, b10, b11, b12⟩ := hpost
    rw [hop] at b7 b8
    rw [hct] at b8
    have hsrc1 : rm_src I1 A1 bs t := rm_src_e hsrc (b1 _ (by decide) (by decide)) (b2 _ (by decide) (by decide) (by decide) (by decide))
    have hop1 : A1 56 ((D + 1 : Nat) : Int) = f := by rw [b9 _ (Int.le_refl _)]; exact hop
    have hct1 : A1 61 f = k + 1 := by
      rw [(b7 f hf0 hf1).2.2, if_pos ⟨by omega, rfl⟩, hct]
    have harg : A1 62 (f * 3 + k) = x := by
      rw [b8 _ (by omega) (by omega), if_pos ⟨by omega, rfl⟩]
    have hmp1 : ∀ u, 0 ≤ u → u < 26 → A1 58 u = mp u := by rw [b2 _ (by decide) (by decide) (by decide) (by decide)]; exact hmp
    generalize hp1 : (pt_t (dk_f t) m p).2.1 = p1 at hok hNN cont s1 s2 s4 s5 b3 b6 h40
    -- at the character behind it
    have hat := rm_at (L := L) (xs := xs) (I := I1) (A := A1) d hS hsrc1 (p := p1) (q := I1 12) ⟨by omega, by have := hsrc.2.1; omega⟩ b3
    have hDr : (0 : Int) < ((D + 1 : Nat) : Int) ∧ ((D + 1 : Nat) : Int) ≤ 6 := by omega
    have hr := dk_f_r hsrc.2.2.1 (p := p1)
    refine ty_iload_n (pc := 102) (i := 1) (ks := []) (by decide +kernel) rfl ?_
    -- at 103: .ifCond .le 39
    refine ty_if_le (pc := 103) (off := 39) (t := 142) (ks := []) (by decide +kernel) (by omega) (fun hc => ?_) (fun hc => ?_)
    · omega
    clear hc
    refine ty_aload_n (pc := 106) (i := 0) (ks := []) (by decide +kernel) rfl ?_
    refine ty_aload_n (pc := 107) (i := 0) (ks := []) (by decide +kernel) rfl ?_
    refine ty_getI (pc := 108) (idx := 184) (ci := 13) (f := 12) (by decide +kernel) (by first | rfl | assumption) rfl (by first | exact hS.1 _ _ rfl | assumption) (fun v hv => ?_)
    simp (decide := true) only [rm_I, rm_u, rm_w, ty_sI, ty_sR, ty_sA, ty_sQ, ty_mA, ty_mQ, ↓reduceIte, false_and, and_false, true_and, and_true, and_self] at hv
    subst hv
    -- at 111: .invokevirtual 199
    refine ty_callv (pc := 111) (idx := 199) (m := 119) (n := 2) (c := 13) (vs := [_]) (r := []) (by decide +kernel) rfl rfl (Nat.le_of_ble_eq_true rfl) (by first | rfl | assumption) (by first | exact hS.1 _ _ rfl | assumption) hat ?_
    rintro _ S1 ⟨z, rfl, rfl, rfl⟩
    refine ty_KI ?_
    refine ty_bipush (pc := 114) (n := 41) (ks := []) (by decide +kernel) (by omega) ?_
    -- at 116: .if_icmp .ne 26
    by_cases e41 : dk_f t p1 = 41
    · rw [if_pos e41] at cont
      refine ty_icmp_ne (pc := 116) (off := 26) (t := 142) (ks := []) (by decide +kernel) (by omega) (by omega) (fun hc => ?_) (fun hc => ?_)
      · exact absurd e41 hc
      clear hc
      refine ty_aload_n (pc := 119) (i := 0) (ks := []) (by decide +kernel) rfl ?_
      refine ty_dup (pc := 120) (ks := []) (by decide +kernel) rfl ?_
      refine ty_getI (pc := 121) (idx := 184) (ci := 13) (f := 12) (by decide +kernel) (by first | rfl | assumption) rfl (by first | exact hS.1 _ _ rfl | assumption) (fun v hv => ?_)
      simp (decide := true) only [rm_I, rm_u, rm_w, ty_sI, ty_sR, ty_sA, ty_sQ, ty_mA, ty_mQ, ↓reduceIte, false_and, and_false, true_and, and_true, and_self] at hv
      subst hv
      refine ty_iconst (pc := 124) (n := 1) (ks := []) (by decide +kernel) ?_
      refine ty_iadd (pc := 125) (ks := []) (by decide +kernel) ?_
      refine ty_putI (pc := 126) (idx := 184) (ci := 13) (f := 12) (by decide +kernel) (by first | rfl | assumption) rfl rfl (by first | exact hS.1 _ _ rfl | assumption) ?_
      rw [rm_sI]
      refine ty_aload_n (pc := 129) (i := 0) (ks := []) (by decide +kernel) rfl ?_
      refine ty_getS (b := (56, 0)) (pc := 130) (idx := 19) (ci := 13) (f := 3) (by decide +kernel) (by first | rfl | assumption) rfl (by first | exact hS.1 _ _ rfl | assumption) (by first | exact hS.2.2 _ _ _ _ rfl | assumption) ?_
      refine ty_iload_n (pc := 133) (i := 1) (ks := []) (by decide +kernel) rfl ?_
      refine ty_iaload (pc := 134) (ks := []) (by decide +kernel) (by first | rfl | assumption) (by rfl) (by first | exact hS.1 _ _ rfl | assumption) (by first | exact hS.2.1 _ _ _ rfl | assumption) (by omega) (fun v hv => ?_)
      rw [rm_A (by decide)] at hv
      first | (simp (decide := true) only [rm_w, ty_sI, ty_sR, ty_sA, ty_sQ, ty_mA, ty_mQ, ↓reduceIte, false_and, and_false, true_and, and_true, and_self] at hv) | skip
      subst hv
      refine ty_istore_n (pc := 135) (i := 3) (ks := []) (ls' := [_, _, _, _]) (by decide +kernel) rfl ?_
      refine ty_iinc (pc := 136) (i := 1) (n := (-1)) (ks := []) (ls' := [_, _, _, _]) (by decide +kernel) rfl rfl ?_
      refine ty_goto (pc := 139) (off := (-37)) (t := 102) (ks := []) (by decide +kernel) ?_
      -- at 102: .iload_n 1
      rw [b3, hop1, show ((D + 1 : Nat) : Int) + -1 = (D : Int) by omega]
      refine cont _ A1 ta1 nc1 y2 ?_ b2 ?_ (fun c c0 c1 => ⟨(b7 c c0 c1).1, (b7 c c0 c1).2.1, fun hcf => by rw [(b7 c c0 c1).2.2, if_neg (fun w => hcf w.2)]⟩) ?_ (fun j j0 j1 hj => ?_) (fun i a hi => ?_) b9 b10
      · intro q h1 h2
        exact (if_neg h1).trans (b1 q h1 h2)
      · refine ⟨?_, (if_neg (by decide)).trans b4, b5, by simp only; omega⟩
        show rm_u I1 12 (bs + p1 + 1) 12 = bs + (p1 + 1)
        exact (if_pos rfl).trans (by omega)
      · rw [hct1]; rfl
      · rw [b8 j j0 j1, if_neg (by omega)]
      · cases i with
        | zero =>
          simp only [List.getElem?_cons_zero, Option.some.injEq] at hi
          subst hi
          rw [show f * 3 + k + ((0 : Nat) : Int) = f * 3 + k by omega, harg]
          exact b11
        | succ i => simp at hi
    · rw [if_neg e41] at hok hNN cont
      by_cases e2 : r = 0 ∨ dk_f t p1 ≠ 44
      · rw [if_pos e2] at hok
        exact absurd (show false = true from hok) (by decide)
      rw [if_neg e2] at hok hNN cont
      have h44 : dk_f t p1 = 44 := by omega
      have hlt : p1 < t.length := by
        by_cases z : (t.length : Int) ≤ p1
        · rw [hn p1 z] at h44
          omega
        · omega
      refine ty_icmp_ne (pc := 116) (off := 26) (t := 142) (ks := []) (by decide +kernel) (by omega) (by omega) (fun hc => ?_) (fun hc => ?_)
      rotate_left
      · exact absurd hc e41
      clear hc
      refine ty_iload_n (pc := 142) (i := 1) (ks := []) (by decide +kernel) rfl ?_
      -- at 143: .ifCond .ne 5
      refine ty_if_ne (pc := 143) (off := 5) (t := 148) (ks := []) (by decide +kernel) (by omega) (fun hc => ?_) (fun hc => ?_)
      rotate_left
      · omega
      clear hc
      refine ty_aload_n (pc := 148) (i := 0) (ks := []) (by decide +kernel) rfl ?_
      refine ty_dup (pc := 149) (ks := []) (by decide +kernel) rfl ?_
      refine ty_getI (pc := 150) (idx := 184) (ci := 13) (f := 12) (by decide +kernel) (by first | rfl | assumption) rfl (by first | exact hS.1 _ _ rfl | assumption) (fun v hv => ?_)
      simp (decide := true) only [rm_I, rm_u, rm_w, ty_sI, ty_sR, ty_sA, ty_sQ, ty_mA, ty_mQ, ↓reduceIte, false_and, and_false, true_and, and_true, and_self] at hv
      subst hv
      refine ty_iconst (pc := 153) (n := 1) (ks := []) (by decide +kernel) ?_
      refine ty_iadd (pc := 154) (ks := []) (by decide +kernel) ?_
      refine ty_putI (pc := 155) (idx := 184) (ci := 13) (f := 12) (by decide +kernel) (by first | rfl | assumption) rfl rfl (by first | exact hS.1 _ _ rfl | assumption) ?_
      rw [rm_sI]
      refine ty_goto (pc := 158) (off := (-156)) (t := 2) (ks := []) (by decide +kernel) ?_
      -- at 2: .aload_n 0
      rw [b3]
      obtain ⟨v1, v2, v3, v4⟩ := pt_a_spec hn (pt_t_spec hn m) r (p1 + 1) (by omega) (by omega)
      refine ih (k + 1) (p1 + 1) nc1 f _ A1 ta1 _ _ (rm_src_e hsrc1 (if_neg (by decide)) rfl) hmp1 (by omega) (by omega) ((if_pos rfl).trans (by omega)) ((if_neg (by decide)).trans b4) (by omega) (by omega) (by omega) (by omega) hop1 hf0 (by omega) hct1 hok (fun q as hm => hNN q as (List.mem_append.mpr (.inr hm))) ?_
      intro I2 A2 ta2 nc2 z2 c1 c2 c3 c4 c5 c6 c7 c8 c9
      refine cont I2 A2 ta2 nc2 z2 (fun q h1 h2 => (c1 q h1 h2).trans ((if_neg h1).trans (b1 q h1 h2))) (fun q h1 h2 h3 h4 => (c2 q h1 h2 h3 h4).trans (b2 q h1 h2 h3 h4)) ⟨c3.1, c3.2.1, by omega, ?_⟩ (fun c c0 c1' => ?_) ?_ (fun j j0 j1 hj => ?_) (fun i a hi => ?_) (fun j hj => (c8 j hj).trans (b9 j hj)) (fun c q1 q2 => ?_)
      · have := c3.2.2.2
        simp only
        omega
      · obtain ⟨g1, g2, g3⟩ := c4 c c0 (by omega)
        obtain ⟨h1', h2', h3'⟩ := b7 c c0 c1'
        exact ⟨g1.trans h1', g2.trans h2', fun hcf => by rw [g3 hcf, h3', if_neg (fun w => hcf w.2)]⟩
      · rw [c5]
        simp only [List.length_cons]
        omega
      · rw [c6 j j0 (by omega) (by omega), b8 j j0 j1, if_neg (by omega)]
      · cases i with
        | zero =>
          simp only [List.getElem?_cons_zero, Option.some.injEq] at hi
          subst hi
          rw [show f * 3 + k + ((0 : Nat) : Int) = f * 3 + k by omega, c6 _ (by omega) (by omega) (by omega), harg]
          exact rm_t_up b11 c3.2.2.1 (fun c q0 q1 => (c4 c q0 q1).2.1)
        | succ i =>
          simp only [List.getElem?_cons_succ] at hi
          rw [show f * 3 + k + ((i + 1 : Nat) : Int) = f * 3 + (k + 1) + (i : Int) by omega]
          exact c7 i a hi
      · by_cases e : c < nc1
        · have hcell := b10 c q1 e
          have hax : mo_a G (ta1 c) ≤ 3 := (hw _ hcell.1.2.1).2.2.1.2
          obtain ⟨g1, g2, g3⟩ := c4 c (by omega) e
          exact rm_cell_keep hcell ⟨by omega, e⟩ c3.2.2.1 (fun c q0 q1 => (c4 c q0 q1).2.1) g1 (g3 (by omega)) (fun k k0 k1 => c6 _ (by omega) (by omega) (by omega)) hax
        · exact c9 c (by omega) q2
end RMB
