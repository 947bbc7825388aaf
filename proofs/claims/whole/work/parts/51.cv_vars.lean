/-! The class's variables. -/
/-- rows that grow: B bound, F first asleep, E last asleep, all of length n -/
def cv_sh (S : ty_S) (B F E : ai_A) (n : Nat) : Prop := (S.2.1 (13, 0) 1 = some B ∧ S.2.1 (13, 0) 2 = some F ∧ S.2.1 (13, 0) 3 = some E) ∧ (ty_sk B.1 = (2, 0) ∧ ty_sk F.1 = (2, 0) ∧ ty_sk E.1 = (2, 0)) ∧
  (B.2 < S.2.2.2.2.2.2.1 B.1 ∧ F.2 < S.2.2.2.2.2.2.1 F.1 ∧ E.2 < S.2.2.2.2.2.2.1 E.1) ∧ (S.2.2.2.2.2.1 B = n ∧ S.2.2.2.2.2.1 F = n ∧ S.2.2.2.2.2.1 E = n) ∧ (B ≠ F ∧ B ≠ E ∧ F ≠ E) ∧ ((B.1 = 23 ∨ B.1 = 48) ∧ (F.1 = 24 ∨ F.1 = 48) ∧ (E.1 = 25 ∨ E.1 = 48)) ∧ n ≤ 100000
theorem cv_ne {S : ty_S} {B F E : ai_A} {n : Nat} (h : cv_sh S B F E n) {s i : Nat} (hs : s ≠ 23 ∧ s ≠ 24 ∧ s ≠ 25 ∧ s ≠ 48) : (¬ B = (s, i) ∧ ¬ F = (s, i) ∧ ¬ E = (s, i)) ∧ ¬ (s, i) = B ∧ ¬ (s, i) = F ∧ ¬ (s, i) = E := by
  obtain ⟨-, -, -, -, -, ⟨h1, h2, h3⟩, -⟩ := h
  have e : ∀ a : ai_A, a.1 ≠ s → ¬ a = (s, i) ∧ ¬ (s, i) = a := fun a ha => ⟨fun z => ha (by rw [z]), fun z => ha (by rw [← z])⟩
  have b1 := e B (by omega)
  have b2 := e F (by omega)
  have b3 := e E (by omega)
  exact ⟨⟨b1.1, b2.1, b3.1⟩, b1.2, b2.2, b3.2⟩
/-- the program stands in the class's tables -/
def cv_g (S : ty_S) (G : mo_G) : Prop := S.2.2.1 (19, 0) = G.1 ∧ S.2.2.1 (20, 0) = G.2.1 ∧ S.2.2.1 (21, 0) = G.2.2.1 ∧ S.2.2.1 (22, 0) = G.2.2.2.1
theorem ty_sA_mA {S : ty_S} {a : ai_A} {f : Int → Int} {i v : Int} : ty_sA (ty_mA S a f) a i v = ty_mA S a (fun j => if j = i then v else f j) := by
  unfold ty_sA ty_mA
  congr 3
  funext b j
  by_cases e : b = a
  · simp [e]
  · simp [e]
theorem ty_sA_mA_ne {S : ty_S} {a c : ai_A} {f : Int → Int} {i v : Int} (h : ¬ c = a) : ty_sA (ty_mA S a f) c i v = ty_mA (ty_sA S c i v) a f := by
  unfold ty_sA ty_mA
  congr 3
  funext b
  funext j
  by_cases e : b = a
  · have : ¬ a = c := fun z => h z.symm
    simp [e, this]
  · simp [e]
theorem ty_mA_self {S : ty_S} {a : ai_A} : ty_mA S a (S.2.2.1 a) = S := by
  unfold ty_mA
  have : (fun b => if b = a then S.2.2.1 a else S.2.2.1 b) = S.2.2.1 := by
    funext b
    by_cases e : b = a
    · simp [e]
    · simp [e]
  rw [this]
theorem ty_sA_as {S : ty_S} {a : ai_A} {i v : Int} : ty_sA S a i v = ty_mA S a (fun j => if j = i then v else S.2.2.1 a j) := by
  have := ty_sA_mA (S := S) (a := a) (f := S.2.2.1 a) (i := i) (v := v)
  rw [ty_mA_self] at this
  exact this
section CVV
variable {L : Nat} {xs : Nat → Int32} {S : ty_S} {B F E : ai_A} {n : Nat}
theorem cv_bind (d : Nat) (hS : ty_st S) (hV : cv_sh S B F E n) {v x bc : Int} (hv : 0 ≤ v ∧ v < n) (hb : S.1 (13, 0) 7 = bc) (hr : 0 ≤ bc ∧ bc < 500) : ty_C L xs (d + 1) 87 [.inr (.inr (some (13, 0))), .inl (ty_J v), .inl (ty_J x)] S (ty_oV fun S' => S' = ty_sI (ty_sA (ty_sA S B v x) (26, 0) bc v) (13, 0) 7 (bc + 1)) := by
  subst hb
  obtain ⟨⟨b1, b2, b3⟩, ⟨k1, k2, k3⟩, ⟨p1, p2, p3⟩, ⟨n1, n2, n3⟩, -, -, hn⟩ := hV
  refine ty_enter (ml := 3) (ls := [_, _, _]) rfl rfl (Nat.le_of_ble_eq_true rfl) ?_
  refine ty_aload_n (pc := 0) (i := 0) (ks := []) (by decide +kernel) rfl ?_
  refine ty_getI (pc := 1) (idx := 31) (ci := 2) (f := 7) (by decide +kernel) (by first | rfl | assumption) rfl (by first | exact hS.1 _ _ rfl | assumption) (fun v hv => ?_)
  subst hv
  refine ty_sipush (pc := 4) (n := 500) (ks := []) (by decide +kernel) (by omega) ?_
  -- at 7: .if_icmp .ge 30
  refine ty_icmp_ge (pc := 7) (off := 30) (t := 37) (ks := []) (by decide +kernel) (by omega) (by omega) (fun hc => ?_) (fun hc => ?_)
  · omega
  · refine ty_aload_n (pc := 10) (i := 0) (ks := []) (by decide +kernel) rfl ?_
    first | refine ty_getS (pc := 11) (idx := 9) (ci := 2) (f := 1) (by decide +kernel) (by first | rfl | assumption) rfl (by first | exact hS.1 _ _ rfl | assumption) (by assumption) ?_ | (refine ty_getR (pc := 11) (idx := 9) (ci := 2) (f := 1) (by decide +kernel) (by first | rfl | assumption) rfl (by first | exact hS.1 _ _ rfl | assumption) (fun v hv => ?_); (subst hv))
    refine ty_iload_n (pc := 14) (i := 1) (ks := []) (by decide +kernel) rfl ?_
    refine ty_iload_n (pc := 15) (i := 2) (ks := []) (by decide +kernel) rfl ?_
    refine ty_iastore (pc := 16) (ks := []) (by decide +kernel) (by first | rfl | assumption) (by rfl) (by first | exact hS.1 _ _ rfl | assumption) (by first | exact hS.2.1 _ _ _ rfl | assumption) (by omega) ?_
    refine ty_aload_n (pc := 17) (i := 0) (ks := []) (by decide +kernel) rfl ?_
    refine ty_getS (b := (26, 0)) (pc := 18) (idx := 28) (ci := 2) (f := 6) (by decide +kernel) (by first | rfl | assumption) rfl (by first | exact hS.1 _ _ rfl | assumption) (by first | exact hS.2.2 _ _ _ _ rfl | assumption) ?_
    refine ty_aload_n (pc := 21) (i := 0) (ks := []) (by decide +kernel) rfl ?_
    refine ty_getI (pc := 22) (idx := 31) (ci := 2) (f := 7) (by decide +kernel) (by first | rfl | assumption) rfl (by first | exact hS.1 _ _ rfl | assumption) (fun v hv => ?_)
    first | simp (decide := true) only [ty_sI, ty_sR, ty_sA, ty_sQ, ty_mA, ty_mQ, ↓reduceIte, false_and, and_false, true_and, and_true, and_self, hne] at hv | simp (decide := true) only [ty_sI, ty_sR, ty_sA, ty_sQ, ty_mA, ty_mQ, ↓reduceIte, false_and, and_false, true_and, and_true, and_self] at hv | skip
    subst hv
    refine ty_iload_n (pc := 25) (i := 1) (ks := []) (by decide +kernel) rfl ?_
    refine ty_iastore (pc := 26) (ks := []) (by decide +kernel) (by first | rfl | assumption) (by rfl) (by first | exact hS.1 _ _ rfl | assumption) (by first | exact hS.2.1 _ _ _ rfl | assumption) (by omega) ?_
    refine ty_aload_n (pc := 27) (i := 0) (ks := []) (by decide +kernel) rfl ?_
    refine ty_dup (pc := 28) (ks := []) (by decide +kernel) rfl ?_
    refine ty_getI (pc := 29) (idx := 31) (ci := 2) (f := 7) (by decide +kernel) (by first | rfl | assumption) rfl (by first | exact hS.1 _ _ rfl | assumption) (fun v hv => ?_)
    first | simp (decide := true) only [ty_sI, ty_sR, ty_sA, ty_sQ, ty_mA, ty_mQ, ↓reduceIte, false_and, and_false, true_and, and_true, and_self, hne] at hv | simp (decide := true) only [ty_sI, ty_sR, ty_sA, ty_sQ, ty_mA, ty_mQ, ↓reduceIte, false_and, and_false, true_and, and_true, and_self] at hv | skip
    subst hv
    refine ty_iconst (pc := 32) (n := 1) (ks := []) (by decide +kernel) ?_
    refine ty_iadd (pc := 33) (ks := []) (by decide +kernel) ?_
    refine ty_putI (pc := 34) (idx := 31) (ci := 2) (f := 7) (by decide +kernel) (by first | rfl | assumption) rfl rfl (by first | exact hS.1 _ _ rfl | assumption) ?_
    -- at 37: .return_
    refine ty_ret_v (pc := 37) (ks := []) (by decide +kernel) rfl ?_
    exact ⟨rfl, rfl⟩
def cv_fr (f ones : Int → Int) (kept : Int) : Nat → Int → Int
  | 0 => f
  | m + 1 => fun j => if j = ones (kept + m) then mo_F else cv_fr f ones kept m j
theorem cv_free (d : Nat) (hS : ty_st S) (hV : cv_sh S B F E n) {kept bc : Int} (hb : S.1 (13, 0) 7 = bc) (hr : 0 ≤ kept ∧ kept ≤ bc ∧ bc ≤ 500) (ho : ∀ i, kept ≤ i → i < bc → 0 ≤ S.2.2.1 (26, 0) i ∧ S.2.2.1 (26, 0) i < n) :
    ty_C L xs (d + 1) 82 [.inr (.inr (some (13, 0))), .inl (ty_J kept)] S (ty_oV fun S' => S' = ty_sI (ty_mA S B (cv_fr (S.2.2.1 B) (S.2.2.1 (26, 0)) kept (bc - kept).toNat)) (13, 0) 7 kept) := by
  have hne := cv_ne hV (s := 26) (i := 0) (by decide)
  obtain ⟨⟨b1, b2, b3⟩, ⟨k1, k2, k3⟩, ⟨p1, p2, p3⟩, ⟨n1, n2, n3⟩, -, -, hn⟩ := hV
  have loop : ∀ (r m : Nat), (m + r : Int) = bc - kept → ty_W L xs d 82 2 [some (.inr (.inr (some (13, 0)))), some (.inl (ty_J kept)), some (.inl (ty_J (kept + m)))] [] (ty_mA S B (cv_fr (S.2.2.1 B) (S.2.2.1 (26, 0)) kept m)) (ty_oV fun S' => S' = ty_sI (ty_mA S B (cv_fr (S.2.2.1 B) (S.2.2.1 (26, 0)) kept (bc - kept).toNat)) (13, 0) 7 kept) := by
    intro r
    induction r with
    | zero =>
      intro m hm
      refine ty_iload_n (pc := 2) (i := 2) (ks := []) (by decide +kernel) rfl ?_
      refine ty_aload_n (pc := 3) (i := 0) (ks := []) (by decide +kernel) rfl ?_
      refine ty_getI (pc := 4) (idx := 31) (ci := 2) (f := 7) (by decide +kernel) (by first | rfl | assumption) rfl (by first | exact hS.1 _ _ rfl | assumption) (fun v hv => ?_)
      first | simp (decide := true) only [ty_sI, ty_sR, ty_sA, ty_sQ, ty_mA, ty_mQ, ↓reduceIte, false_and, and_false, true_and, and_true, and_self, hne] at hv | simp (decide := true) only [ty_sI, ty_sR, ty_sA, ty_sQ, ty_mA, ty_mQ, ↓reduceIte, false_and, and_false, true_and, and_true, and_self] at hv | skip
      subst hv
      -- at 7: .if_icmp .ge 22
      rw [hb]
      refine ty_icmp_ge (pc := 7) (off := 22) (t := 29) (ks := []) (by decide +kernel) (by omega) (by omega) (fun hc => ?_) (fun hc => ?_)
      · refine ty_aload_n (pc := 29) (i := 0) (ks := []) (by decide +kernel) rfl ?_
        refine ty_iload_n (pc := 30) (i := 1) (ks := []) (by decide +kernel) rfl ?_
        refine ty_putI (pc := 31) (idx := 31) (ci := 2) (f := 7) (by decide +kernel) (by first | rfl | assumption) rfl rfl (by first | exact hS.1 _ _ rfl | assumption) ?_
        -- at 34: .return_
        refine ty_ret_v (pc := 34) (ks := []) (by decide +kernel) rfl ?_
        have e : (bc - kept).toNat = m := by omega
        rw [e]
        exact ⟨rfl, rfl⟩
      · omega
    | succ r ih =>
      intro m hm
      refine ty_iload_n (pc := 2) (i := 2) (ks := []) (by decide +kernel) rfl ?_
      refine ty_aload_n (pc := 3) (i := 0) (ks := []) (by decide +kernel) rfl ?_
      refine ty_getI (pc := 4) (idx := 31) (ci := 2) (f := 7) (by decide +kernel) (by first | rfl | assumption) rfl (by first | exact hS.1 _ _ rfl | assumption) (fun v hv => ?_)
      first | simp (decide := true) only [ty_sI, ty_sR, ty_sA, ty_sQ, ty_mA, ty_mQ, ↓reduceIte, false_and, and_false, true_and, and_true, and_self, hne] at hv | simp (decide := true) only [ty_sI, ty_sR, ty_sA, ty_sQ, ty_mA, ty_mQ, ↓reduceIte, false_and, and_false, true_and, and_true, and_self] at hv | skip
      subst hv
      -- at 7: .if_icmp .ge 22
      rw [hb]
      have h9 := ho (kept + m) (by omega) (by omega)
      refine ty_icmp_ge (pc := 7) (off := 22) (t := 29) (ks := []) (by decide +kernel) (by omega) (by omega) (fun hc => ?_) (fun hc => ?_)
      · omega
      · refine ty_aload_n (pc := 10) (i := 0) (ks := []) (by decide +kernel) rfl ?_
        first | refine ty_getS (pc := 11) (idx := 9) (ci := 2) (f := 1) (by decide +kernel) (by first | rfl | assumption) rfl (by first | exact hS.1 _ _ rfl | assumption) (by assumption) ?_ | (refine ty_getR (pc := 11) (idx := 9) (ci := 2) (f := 1) (by decide +kernel) (by first | rfl | assumption) rfl (by first | exact hS.1 _ _ rfl | assumption) (fun v hv => ?_); (first | simp (decide := true) only [ty_sI, ty_sR, ty_sA, ty_sQ, ty_mA, ty_mQ, ↓reduceIte, false_and, and_false, true_and, and_true, and_self, hne] at hv | simp (decide := true) only [ty_sI, ty_sR, ty_sA, ty_sQ, ty_mA, ty_mQ, ↓reduceIte, false_and, and_false, true_and, and_true, and_self] at hv | skip); (subst hv))
        refine ty_aload_n (pc := 14) (i := 0) (ks := []) (by decide +kernel) rfl ?_
        refine ty_getS (b := (26, 0)) (pc := 15) (idx := 28) (ci := 2) (f := 6) (by decide +kernel) (by first | rfl | assumption) rfl (by first | exact hS.1 _ _ rfl | assumption) (by first | exact hS.2.2 _ _ _ _ rfl | assumption) ?_
        refine ty_iload_n (pc := 18) (i := 2) (ks := []) (by decide +kernel) rfl ?_
        refine ty_iaload (pc := 19) (ks := []) (by decide +kernel) (by first | rfl | assumption) (by rfl) (by first | exact hS.1 _ _ rfl | assumption) (by first | exact hS.2.1 _ _ _ rfl | assumption) (by omega) (fun v hv => ?_)
        first | simp (decide := true) only [ty_sI, ty_sR, ty_sA, ty_sQ, ty_mA, ty_mQ, ↓reduceIte, false_and, and_false, true_and, and_true, and_self, hne] at hv | simp (decide := true) only [ty_sI, ty_sR, ty_sA, ty_sQ, ty_mA, ty_mQ, ↓reduceIte, false_and, and_false, true_and, and_true, and_self] at hv | skip
        subst hv
        refine ty_ldc (pc := 20) (idx := 62) (c := 2147483648) (z := (-2147483648)) (by decide +kernel) (by decide +kernel) ?_
        refine ty_iastore (pc := 22) (ks := []) (by decide +kernel) (by first | rfl | assumption) (by rfl) (by first | exact hS.1 _ _ rfl | assumption) (by first | exact hS.2.1 _ _ _ rfl | assumption) (by omega) ?_
        refine ty_iinc (pc := 23) (i := 2) (n := 1) (ks := []) (ls' := [_, _, _]) (by decide +kernel) rfl rfl ?_
        refine ty_goto (pc := 26) (off := (-24)) (t := 2) (ks := []) (by decide +kernel) ?_
        -- at 2: .iload_n 2
        rw [show (-2147483648 : Int) = mo_F from rfl, ty_sA_mA]
        have := ih (m + 1) (by omega)
        rw [show kept + ((m + 1 : Nat) : Int) = kept + m + 1 by omega] at this
        exact this
  refine ty_enter (ml := 3) (ls := [_, _, _]) rfl rfl (Nat.le_of_ble_eq_true rfl) ?_
  refine ty_iload_n (pc := 0) (i := 1) (ks := []) (by decide +kernel) rfl ?_
  refine ty_istore_n (pc := 1) (i := 2) (ks := []) (ls' := [_, _, _]) (by decide +kernel) rfl ?_
  -- at 2: .iload_n 2
  have := loop (bc - kept).toNat 0 (by omega)
  rw [show kept + ((0 : Nat) : Int) = kept by omega] at this
  rw [show cv_fr (S.2.2.1 B) (S.2.2.1 (26, 0)) kept 0 = S.2.2.1 B from rfl, ty_mA_self] at this
  exact this
theorem cv_value_nv (d : Nat) (hS : ty_st S) {G : mo_G} (hG : cv_g S G) (hw : mo_wf G) {x i t0 made : Int} (hx : mo_ok G made x) (hnv : ¬ (65 ≤ mo_l G x ∧ mo_l G x ≤ 90)) (hm : 0 ≤ made ∧ made ≤ 100000) : ty_W L xs (d + 1) 75 16 [some (.inr (.inr (some (13, 0)))), some (.inl (ty_J t0)), some (.inl (ty_J x)), some (.inl (ty_J i))] [] S (ty_oI fun z S' => z = x ∧ S' = S) := by
  have h1 := mo_ok_le hw hx
  have hl : S.2.2.1 (19, 0) (x % 624) = mo_l G x := by rw [hG.1]; rfl
  have h2 := (hw _ hx.2.1).2.1
  have h0 := hx.1
  have hlr : 0 ≤ mo_l G x ∧ mo_l G x ≤ 65535 := h2
  refine ty_aload_n (pc := 16) (i := 0) (ks := []) (by decide +kernel) rfl ?_
  refine ty_getS (b := (12, 0)) (pc := 17) (idx := 52) (ci := 2) (f := 0) (by decide +kernel) (by first | rfl | assumption) rfl (by first | exact hS.1 _ _ rfl | assumption) (by first | exact hS.2.2 _ _ _ _ rfl | assumption) ?_
  refine ty_iload_n (pc := 20) (i := 2) (ks := []) (by decide +kernel) rfl ?_
  -- at 21: .invokevirtual 63
  refine ty_callv (pc := 21) (idx := 63) (m := 66) (n := 2) (c := 1) (vs := [_]) (r := []) (by decide +kernel) rfl rfl (Nat.le_of_ble_eq_true rfl) (by first | rfl | assumption) (by first | exact hS.1 _ _ rfl | assumption) (ct_letterOf d hS (by omega) (by rw [hl]; exact hlr)) ?_
  rintro _ S1 ⟨z, rfl, rfl, rfl⟩
  rw [hl]
  refine ty_KI ?_
  refine ty_calls (pc := 24) (idx := 69) (m := 24) (n := 1) (c := 0) (av := [_]) (r := []) (by decide +kernel) rfl rfl (Nat.le_of_ble_eq_true rfl) (ct_isVariable d hlr) ?_
  rintro _ S2 ⟨z, rfl, rfl, rfl⟩
  rw [if_neg hnv]
  refine ty_KI ?_
  refine ty_if_ne (pc := 27) (off := 5) (t := 32) (ks := []) (by decide +kernel) (by omega) (fun hc => ?_) (fun hc => ?_)
  · exact absurd rfl hc
  · refine ty_iload_n (pc := 30) (i := 2) (ks := []) (by decide +kernel) rfl ?_
    refine ty_ret_i (pc := 31) (ks := []) (ty := .int) (by decide +kernel) rfl rfl ?_
    exact ⟨_, rfl, rfl, rfl⟩
theorem cv_value_neg (d : Nat) (hS : ty_st S) (hV : cv_sh S B F E n) {G : mo_G} (hG : cv_g S G) (hw : mo_wf G) {made : Int} (hmd : S.1 (13, 0) 4 = made) (hm : 0 ≤ made ∧ made ≤ n) (hb : mo_bw G made (S.2.2.1 B)) : ∀ (m : Nat) (w i t0 : Int), (-1 - w).toNat < m → w < 0 → 0 ≤ i → i + (-1 - w) < made →
    ty_W L xs (d + 1) 75 43 [some (.inr (.inr (some (13, 0)))), some (.inl (ty_J t0)), some (.inl (ty_J w)), some (.inl (ty_J i))] [] S (ty_oI fun z S' => z = mo_dv (S.2.2.1 B) (-1 - w) ∧ S' = S) := by
  have hV' := hV
  obtain ⟨⟨b1, b2, b3⟩, ⟨k1, k2, k3⟩, ⟨p1, p2, p3⟩, ⟨n1, n2, n3⟩, -, -, hn⟩ := hV
  intro m
  induction m with
  | zero => intro w i t0 h; omega
  | succ m ih =>
    intro w i t0 h1 h2 h3 h4
    have hst := mo_dv_step hb (v := -1 - w) (by omega) (by omega)
    have hbw := hb (-1 - w) (by omega) (by omega)
    have hbr : -2147483648 ≤ S.2.2.1 B (-1 - w) ∧ S.2.2.1 B (-1 - w) ≤ 2147483647 := by
      rcases hbw with z | z | z
      · rw [z]; decide
      · have := mo_ok_le hw z.2.1
        omega
      · omega
    refine ty_aload_n (pc := 43) (i := 0) (ks := []) (by decide +kernel) rfl ?_
    first | refine ty_getS (pc := 44) (idx := 9) (ci := 2) (f := 1) (by decide +kernel) (by first | rfl | assumption) rfl (by first | exact hS.1 _ _ rfl | assumption) (by assumption) ?_ | (refine ty_getR (pc := 44) (idx := 9) (ci := 2) (f := 1) (by decide +kernel) (by first | rfl | assumption) rfl (by first | exact hS.1 _ _ rfl | assumption) (fun v hv => ?_); (subst hv))
    refine ty_iload_n (pc := 47) (i := 2) (ks := []) (by decide +kernel) rfl ?_
    refine ty_iconst (pc := 48) (n := (-1)) (ks := []) (by decide +kernel) ?_
    refine ty_inot (pc := 49) (ks := []) (by decide +kernel) ?_
    refine ty_iaload (pc := 50) (ks := []) (by decide +kernel) (by first | rfl | assumption) (by rfl) (by first | exact hS.1 _ _ rfl | assumption) (by first | exact hS.2.1 _ _ _ rfl | assumption) (by omega) (fun v hv => ?_)
    subst hv
    refine ty_ldc (pc := 51) (idx := 62) (c := 2147483648) (z := (-2147483648)) (by decide +kernel) (by decide +kernel) ?_
    -- at 53: .if_icmp .ne 5
    refine ty_icmp_ne (pc := 53) (off := 5) (t := 58) (ks := []) (by decide +kernel) (by omega) (by omega) (fun hc => ?_) (fun hc => ?_)
    · have hc' : ¬ S.2.2.1 B (-1 - w) = mo_F := hc
      rw [if_neg hc'] at hst
      refine ty_aload_n (pc := 58) (i := 0) (ks := []) (by decide +kernel) rfl ?_
      first | refine ty_getS (pc := 59) (idx := 9) (ci := 2) (f := 1) (by decide +kernel) (by first | rfl | assumption) rfl (by first | exact hS.1 _ _ rfl | assumption) (by assumption) ?_ | (refine ty_getR (pc := 59) (idx := 9) (ci := 2) (f := 1) (by decide +kernel) (by first | rfl | assumption) rfl (by first | exact hS.1 _ _ rfl | assumption) (fun v hv => ?_); (subst hv))
      refine ty_iload_n (pc := 62) (i := 2) (ks := []) (by decide +kernel) rfl ?_
      refine ty_iconst (pc := 63) (n := (-1)) (ks := []) (by decide +kernel) ?_
      refine ty_inot (pc := 64) (ks := []) (by decide +kernel) ?_
      refine ty_iaload (pc := 65) (ks := []) (by decide +kernel) (by first | rfl | assumption) (by rfl) (by first | exact hS.1 _ _ rfl | assumption) (by first | exact hS.2.1 _ _ _ rfl | assumption) (by omega) (fun v hv => ?_)
      subst hv
      refine ty_istore_n (pc := 66) (i := 2) (ks := []) (ls' := [_, _, _, _]) (by decide +kernel) rfl ?_
      refine ty_iinc (pc := 67) (i := 3) (n := 1) (ks := []) (ls' := [_, _, _, _]) (by decide +kernel) rfl rfl ?_
      refine ty_goto (pc := 70) (off := (-66)) (t := 4) (ks := []) (by decide +kernel) ?_
      -- at 4: .iload_n 3
      refine ty_iload_n (pc := 4) (i := 3) (ks := []) (by decide +kernel) rfl ?_
      refine ty_aload_n (pc := 5) (i := 0) (ks := []) (by decide +kernel) rfl ?_
      refine ty_getI (pc := 6) (idx := 21) (ci := 2) (f := 4) (by decide +kernel) (by first | rfl | assumption) rfl (by first | exact hS.1 _ _ rfl | assumption) (fun v hv => ?_)
      subst hv
      -- at 9: .if_icmp .gt 64
      rw [hmd]
      refine ty_icmp_gt (pc := 9) (off := 64) (t := 73) (ks := []) (by decide +kernel) (by omega) (by omega) (fun hc => ?_) (fun hc => ?_)
      · omega
      · refine ty_iload_n (pc := 12) (i := 2) (ks := []) (by decide +kernel) rfl ?_
        -- at 13: .ifCond .lt 30
        refine ty_if_lt (pc := 13) (off := 30) (t := 43) (ks := []) (by decide +kernel) (by omega) (fun hc => ?_) (fun hc => ?_)
        · rw [if_neg (by omega)] at hst
          rw [hst]
          rcases hbw with z | z | z
          · exact absurd z hc'
          · omega
          · exact ih _ _ _ (by omega) hc (by omega) (by omega)
        · rw [if_pos hc] at hst
          rw [hst]
          rcases hbw with z | z | z
          · exact absurd z hc'
          · exact cv_value_nv d hS hG hw z.2.1 z.2.2 (by omega)
          · omega
    · have hc' : S.2.2.1 B (-1 - w) = mo_F := hc
      rw [if_pos hc'] at hst
      refine ty_iload_n (pc := 56) (i := 2) (ks := []) (by decide +kernel) rfl ?_
      -- at 57: .ireturn
      refine ty_ret_i (pc := 57) (ks := []) (ty := .int) (by decide +kernel) rfl rfl ?_
      exact ⟨_, rfl, by rw [hst]; omega, rfl⟩
theorem cv_valueOf (d : Nat) (hS : ty_st S) (hV : cv_sh S B F E n) {G : mo_G} (hG : cv_g S G) (hw : mo_wf G) {made : Int} (hmd : S.1 (13, 0) 4 = made) (hm : 0 ≤ made ∧ made ≤ n) (hb : mo_bw G made (S.2.2.1 B)) {t : Int} (ht : mo_ok G made t ∨ (t < 0 ∧ -1 - t < made)) :
    ty_C L xs (d + 2) 75 [.inr (.inr (some (13, 0))), .inl (ty_J t)] S (ty_oI fun z S' => z = mo_val G (S.2.2.1 B) t ∧ S' = S) := by
  have hn := hV.2.2.2.2.2.2
  have hr : -2147483648 ≤ t ∧ t ≤ 2147483647 := by
    rcases ht with z | z
    · have := mo_ok_le hw z
      have := z.1
      omega
    · omega
  refine ty_enter (ml := 4) (ls := [_, _, _, _]) rfl rfl (Nat.le_of_ble_eq_true rfl) ?_
  refine ty_iload_n (pc := 0) (i := 1) (ks := []) (by decide +kernel) rfl ?_
  refine ty_istore_n (pc := 1) (i := 2) (ks := []) (ls' := [_, _, _, _]) (by decide +kernel) rfl ?_
  refine ty_iconst (pc := 2) (n := 0) (ks := []) (by decide +kernel) ?_
  refine ty_istore_n (pc := 3) (i := 3) (ks := []) (ls' := [_, _, _, _]) (by decide +kernel) rfl ?_
  refine ty_iload_n (pc := 4) (i := 3) (ks := []) (by decide +kernel) rfl ?_
  refine ty_aload_n (pc := 5) (i := 0) (ks := []) (by decide +kernel) rfl ?_
  refine ty_getI (pc := 6) (idx := 21) (ci := 2) (f := 4) (by decide +kernel) (by first | rfl | assumption) rfl (by first | exact hS.1 _ _ rfl | assumption) (fun v hv => ?_)
  subst hv
  -- at 9: .if_icmp .gt 64
  rw [hmd]
  refine ty_icmp_gt (pc := 9) (off := 64) (t := 73) (ks := []) (by decide +kernel) (by omega) (by omega) (fun hc => ?_) (fun hc => ?_)
  · omega
  · refine ty_iload_n (pc := 12) (i := 2) (ks := []) (by decide +kernel) rfl ?_
    -- at 13: .ifCond .lt 30
    refine ty_if_lt (pc := 13) (off := 30) (t := 43) (ks := []) (by decide +kernel) (by omega) (fun hc => ?_) (fun hc => ?_)
    · have h5 : -1 - t < made := by
        rcases ht with z | z
        · have := z.1
          omega
        · exact z.2
      have := cv_value_neg (L := L) (xs := xs) d hS hV hG hw hmd hm hb ((-1 - t).toNat + 1) t 0 t (by omega) hc (by omega) (by omega)
      unfold mo_val
      rw [if_pos hc]
      exact this
    · have ht : mo_ok G made t := by
        rcases ht with z | z
        · exact z
        · omega
      unfold mo_val
      rw [if_neg (by omega)]
      by_cases e : 65 ≤ mo_l G t ∧ mo_l G t ≤ 90
      · rw [if_pos e]
        have hl : S.2.2.1 (19, 0) (t % 624) = mo_l G t := by rw [hG.1]; rfl
        have hlr : 0 ≤ mo_l G t ∧ mo_l G t ≤ 65535 := by omega
        have hvv := mo_ok_var hw ht e
        refine ty_aload_n (pc := 16) (i := 0) (ks := []) (by decide +kernel) rfl ?_
        refine ty_getS (b := (12, 0)) (pc := 17) (idx := 52) (ci := 2) (f := 0) (by decide +kernel) (by first | rfl | assumption) rfl (by first | exact hS.1 _ _ rfl | assumption) (by first | exact hS.2.2 _ _ _ _ rfl | assumption) ?_
        refine ty_iload_n (pc := 20) (i := 2) (ks := []) (by decide +kernel) rfl ?_
        -- at 21: .invokevirtual 63
        refine ty_callv (pc := 21) (idx := 63) (m := 66) (n := 2) (c := 1) (vs := [_]) (r := []) (by decide +kernel) rfl rfl (Nat.le_of_ble_eq_true rfl) (by first | rfl | assumption) (by first | exact hS.1 _ _ rfl | assumption) (ct_letterOf d hS (by omega) (by rw [hl]; exact hlr)) ?_
        rintro _ S1 ⟨z, rfl, rfl, rfl⟩
        rw [hl]
        refine ty_KI ?_
        refine ty_calls (pc := 24) (idx := 69) (m := 24) (n := 1) (c := 0) (av := [_]) (r := []) (by decide +kernel) rfl rfl (Nat.le_of_ble_eq_true rfl) (ct_isVariable d hlr) ?_
        rintro _ S2 ⟨z, rfl, rfl, rfl⟩
        rw [if_pos e]
        refine ty_KI ?_
        refine ty_if_ne (pc := 27) (off := 5) (t := 32) (ks := []) (by decide +kernel) (by omega) (fun hc => ?_) (fun hc => ?_)
        · refine ty_aload_n (pc := 32) (i := 0) (ks := []) (by decide +kernel) rfl ?_
          refine ty_getS (b := (12, 0)) (pc := 33) (idx := 52) (ci := 2) (f := 0) (by decide +kernel) (by first | rfl | assumption) rfl (by first | exact hS.1 _ _ rfl | assumption) (by first | exact hS.2.2 _ _ _ _ rfl | assumption) ?_
          refine ty_iload_n (pc := 36) (i := 2) (ks := []) (by decide +kernel) rfl ?_
          -- at 37: .invokevirtual 73
          refine ty_callv (pc := 37) (idx := 73) (m := 76) (n := 2) (c := 1) (vs := [_]) (r := []) (by decide +kernel) rfl rfl (Nat.le_of_ble_eq_true rfl) (by first | rfl | assumption) (by first | exact hS.1 _ _ rfl | assumption) (ct_variableOf d hS (by omega)) ?_
          rintro _ S3 ⟨z, rfl, rfl, rfl⟩
          rw [show t / 624 + S3.2.2.1 (22, 0) (t % 624) = mo_v G t by rw [hG.2.2.2]; rfl]
          refine ty_KI ?_
          refine ty_iconst (pc := 40) (n := (-1)) (ks := []) (by decide +kernel) ?_
          refine ty_inot (pc := 41) (ks := []) (by decide +kernel) ?_
          refine ty_istore_n (pc := 42) (i := 2) (ks := []) (ls' := [_, _, _, _]) (by decide +kernel) rfl ?_
          -- at 43: .aload_n 0
          have := cv_value_neg (L := L) (xs := xs) d hS hV hG hw hmd hm hb ((-1 - (-1 - mo_v G t)).toNat + 1) (-1 - mo_v G t) 0 t (by omega) (by omega) (by omega) (by omega)
          rw [show -1 - (-1 - mo_v G t) = mo_v G t by omega] at this
          exact this
        · omega
      · rw [if_neg e]
        exact cv_value_nv d hS hG hw ht e (by omega)
end CVV
