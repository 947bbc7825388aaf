/-! Variables come to be. -/
/-- a row of the variables copied to a longer one -/
def cm_g (S S' : ty_S) (k : Nat) (X : ai_A) (n m : Nat) : Prop := S'.1 = S.1 ∧ (∀ b j, S'.2.1 b j = if b = (13, 0) ∧ j = k then some (48, S.2.2.2.2.2.2.1 48) else S.2.1 b j) ∧ (S'.2.2.1 (48, S.2.2.2.2.2.2.1 48) = (fun j => if 0 ≤ j ∧ j < (n : Int) then S.2.2.1 X j else 0) ∧ ∀ b, b ≠ (48, S.2.2.2.2.2.2.1 48) → S'.2.2.1 b = S.2.2.1 b) ∧ (∀ b, b ≠ (48, S.2.2.2.2.2.2.1 48) → S'.2.2.2.1 b = S.2.2.2.1 b) ∧ S'.2.2.2.2.1 = S.2.2.2.2.1 ∧
  (S'.2.2.2.2.2.1 (48, S.2.2.2.2.2.2.1 48) = m ∧ ∀ b, b ≠ (48, S.2.2.2.2.2.2.1 48) → S'.2.2.2.2.2.1 b = S.2.2.2.2.2.1 b) ∧ (S'.2.2.2.2.2.2.1 48 = S.2.2.2.2.2.2.1 48 + 1 ∧ ∀ s, s ≠ 48 → S'.2.2.2.2.2.2.1 s = S.2.2.2.2.2.2.1 s) ∧ S'.2.2.2.2.2.2.2 = (S.2.2.2.2.2.2.2.1 + 1, S.2.2.2.2.2.2.2.2 + m)
theorem cm_g_of {S : ty_S} {k : Nat} {X : ai_A} {n m : Nat} : cm_g S (ty_sR (ty_mA (ty_nA S 48 m) (48, S.2.2.2.2.2.2.1 48) (fun j => if 0 ≤ j ∧ j < (n : Int) then S.2.2.1 X j else 0)) (13, 0) k (some (48, S.2.2.2.2.2.2.1 48))) k X n m := by
  refine ⟨rfl, fun b j => rfl, ⟨?_, fun b h => ?_⟩, fun b h => ?_, ?_, ⟨?_, fun b h => ?_⟩, ⟨?_, fun s h => ?_⟩, rfl⟩
  · exact ty_mA_at
  · show (ty_mA (ty_nA S 48 m) (48, S.2.2.2.2.2.2.1 48) _).2.2.1 b = _
    rw [ty_mA_ne h]
    exact if_neg h
  · exact if_neg h
  · have : ¬ (ty_sk 48).1 = 3 := by decide +kernel
    show (if (ty_sk 48).1 = 3 then (fun _ => (0 : Int64)) else S.2.2.2.2.1) = _
    exact if_neg this
  · exact if_pos rfl
  · exact if_neg h
  · show (if 48 = 48 then S.2.2.2.2.2.2.1 48 + 1 else S.2.2.2.2.2.2.1 48) = _
    simp
  · exact if_neg h
theorem cm_st {S S' : ty_S} {k : Nat} {X : ai_A} {n m : Nat} (h : cm_g S S' k X n m) (hk : k = 1 ∨ k = 2 ∨ k = 3) (hS : ty_st S) : ty_st S' := by
  obtain ⟨h1, h2, h3, h4, h5, h6, h7, h8⟩ := h
  refine ⟨fun s i hi => ?_, fun s i q hq => ?_, fun s i j b hb => ?_⟩
  · have := hS.1 s i hi
    by_cases e : s = 48
    · rw [e] at this ⊢
      omega
    · rw [h7.2 s e]; exact this
  · rw [h6.2 (s, i) (fun z => ?_)]
    · exact hS.2.1 s i q hq
    · have : s = 48 := congrArg Prod.fst z
      have e9 : ty_len 48 = none := by decide +kernel
      rw [this, e9] at hq
      cases hq
  · rw [h2, if_neg ?_]
    · exact hS.2.2 s i j b hb
    · rintro ⟨z, rfl⟩
      cases z
      rcases hk with rfl | rfl | rfl <;> exact absurd hb (by simp [ty_ref, ty_refL])
/-- the rows as they are while new ones are made ready -/
def cm_3 (S : ty_S) (B F E : ai_A) (q : (Int → Int) × (Int → Int) × (Int → Int)) : ty_S := ty_mA (ty_mA (ty_mA S B q.1) F q.2.1) E q.2.2
section CVM
variable {L : Nat} {xs : Nat → Int32} {S : ty_S} {B F E : ai_A} {n : Nat}
theorem cm_3_put {q : (Int → Int) × (Int → Int) × (Int → Int)} {v x y z : Int} (h1 : ¬ B = F) (h2 : ¬ B = E) (h3 : ¬ F = E) : ty_sA (ty_sA (ty_sA (cm_3 S B F E q) B v x) F v y) E v z = cm_3 S B F E (mo_up q.1 v x, mo_up q.2.1 v y, mo_up q.2.2 v z) := by
  unfold cm_3
  rw [ty_sA_mA_ne h2, ty_sA_mA_ne h1, ty_sA_mA, ty_sA_mA_ne h3, ty_sA_mA, ty_sA_mA]
  rfl
/-- made new: first .. made -/
def cm_f (f : Int → Int) (a c x : Int) : Int → Int := fun j => if a ≤ j ∧ j < c then x else f j
theorem cm_f_up {f : Int → Int} {a c x : Int} (h : a ≤ c) : mo_up (cm_f f a c x) c x = cm_f f a (c + 1) x := by
  funext j
  simp only [mo_up, cm_f]
  by_cases e : j = c
  · rw [if_pos e, if_pos (by omega)]
  · rw [if_neg e]
    by_cases e2 : a ≤ j ∧ j < c
    · rw [if_pos e2, if_pos (by omega)]
    · rw [if_neg e2, if_neg (by omega)]
def cm_n (S : ty_S) (B F E : ai_A) (first many : Int) : ty_S := cm_3 (ty_sI (ty_sI S (13, 0) 4 (first + many)) (13, 0) 5 (S.1 (13, 0) 5 + many)) B F E (cm_f (S.2.2.1 B) first (first + many) mo_F, cm_f (S.2.2.1 F) first (first + many) (-1), cm_f (S.2.2.1 E) first (first + many) (-1))
theorem cm_tail (d : Nat) (hS : ty_st S) (hV : cv_sh S B F E n) {first many r : Int} (hr : 0 ≤ first ∧ 0 ≤ many ∧ first + many ≤ n) (x3 : Option ai_V) : ty_W L xs d 41 58 [some (.inr (.inr (some (13, 0)))), some (.inl (ty_J many)), some (.inl (ty_J first)), x3] [] S (ty_oI fun z S' => z = first ∧ S' = cm_n S B F E first many) := by
  obtain ⟨⟨b1, b2, b3⟩, ⟨k1, k2, k3⟩, ⟨p1, p2, p3⟩, ⟨n1, n2, n3⟩, ⟨m1, m2, m3⟩, -, hn⟩ := hV
  generalize hT : ty_sI (ty_sI S (13, 0) 4 (first + many)) (13, 0) 5 (S.1 (13, 0) 5 + many) = T
  have e2 : T.2 = S.2 := by rw [← hT]; rfl
  have em : T.1 (13, 0) 4 = first + many := by
    rw [← hT, ty_sI_ne (by decide)]
    exact ty_sI_at
  have loop : ∀ (m : Nat) (v : Int), first ≤ v → v + m = first + many → ty_W L xs d 41 77 [some (.inr (.inr (some (13, 0)))), some (.inl (ty_J many)), some (.inl (ty_J first)), some (.inl (ty_J v))] [] (cm_3 T B F E (cm_f (S.2.2.1 B) first v mo_F, cm_f (S.2.2.1 F) first v (-1), cm_f (S.2.2.1 E) first v (-1)))
      (ty_oI fun z S' => z = first ∧ S' = cm_3 T B F E (cm_f (S.2.2.1 B) first (first + many) mo_F, cm_f (S.2.2.1 F) first (first + many) (-1), cm_f (S.2.2.1 E) first (first + many) (-1))) := by
    intro m
    induction m with
    | zero =>
      intro v h1 h2
      have hS : ty_st T := by unfold ty_st; rw [e2]; exact hS
      refine ty_iload_n (pc := 77) (i := 3) (ks := []) (by decide +kernel) rfl ?_
      refine ty_aload_n (pc := 78) (i := 0) (ks := []) (by decide +kernel) rfl ?_
      refine ty_getI (pc := 79) (idx := 21) (ci := 2) (f := 4) (by decide +kernel) (by first | rfl | assumption) rfl (by first | exact hS.1 _ _ rfl | assumption) (fun v hv => ?_)
      subst hv
      -- at 82: .if_icmp .ge 31
      rw [show (cm_3 T B F E (cm_f (S.2.2.1 B) first v mo_F, cm_f (S.2.2.1 F) first v (-1), cm_f (S.2.2.1 E) first v (-1))).1 (13, 0) 4 = first + many from em]
      refine ty_icmp_ge (pc := 82) (off := 31) (t := 113) (ks := []) (by decide +kernel) (by omega) (by omega) (fun hc => ?_) (fun hc => ?_)
      · refine ty_iload_n (pc := 113) (i := 2) (ks := []) (by decide +kernel) rfl ?_
        -- at 114: .ireturn
        refine ty_ret_i (pc := 114) (ks := []) (ty := .int) (by decide +kernel) rfl rfl ?_
        have : v = first + many := by omega
        rw [this]
        exact ⟨_, rfl, rfl, rfl⟩
      · omega
    | succ m ih =>
      intro v h1 h2
      have hS : ty_st T := by unfold ty_st; rw [e2]; exact hS
      have b1 : T.2.1 (13, 0) 1 = some B := by rw [e2]; exact b1
      have b2 : T.2.1 (13, 0) 2 = some F := by rw [e2]; exact b2
      have b3 : T.2.1 (13, 0) 3 = some E := by rw [e2]; exact b3
      have p1 : B.2 < T.2.2.2.2.2.2.1 B.1 := by rw [e2]; exact p1
      have p2 : F.2 < T.2.2.2.2.2.2.1 F.1 := by rw [e2]; exact p2
      have p3 : E.2 < T.2.2.2.2.2.2.1 E.1 := by rw [e2]; exact p3
      have n1 : T.2.2.2.2.2.1 B = n := by rw [e2]; exact n1
      have n2 : T.2.2.2.2.2.1 F = n := by rw [e2]; exact n2
      have n3 : T.2.2.2.2.2.1 E = n := by rw [e2]; exact n3
      refine ty_iload_n (pc := 77) (i := 3) (ks := []) (by decide +kernel) rfl ?_
      refine ty_aload_n (pc := 78) (i := 0) (ks := []) (by decide +kernel) rfl ?_
      refine ty_getI (pc := 79) (idx := 21) (ci := 2) (f := 4) (by decide +kernel) (by first | rfl | assumption) rfl (by first | exact hS.1 _ _ rfl | assumption) (fun v hv => ?_)
      subst hv
      -- at 82: .if_icmp .ge 31
      rw [show (cm_3 T B F E (cm_f (S.2.2.1 B) first v mo_F, cm_f (S.2.2.1 F) first v (-1), cm_f (S.2.2.1 E) first v (-1))).1 (13, 0) 4 = first + many from em]
      refine ty_icmp_ge (pc := 82) (off := 31) (t := 113) (ks := []) (by decide +kernel) (by omega) (by omega) (fun hc => ?_) (fun hc => ?_)
      · omega
      · refine ty_aload_n (pc := 85) (i := 0) (ks := []) (by decide +kernel) rfl ?_
        first | refine ty_getS (pc := 86) (idx := 9) (ci := 2) (f := 1) (by decide +kernel) (by first | rfl | assumption) rfl (by first | exact hS.1 _ _ rfl | assumption) (by assumption) ?_ | (refine ty_getR (pc := 86) (idx := 9) (ci := 2) (f := 1) (by decide +kernel) (by first | rfl | assumption) rfl (by first | exact hS.1 _ _ rfl | assumption) (fun v hv => ?_); (subst hv))
        refine ty_iload_n (pc := 89) (i := 3) (ks := []) (by decide +kernel) rfl ?_
        refine ty_ldc (pc := 90) (idx := 62) (c := 2147483648) (z := (-2147483648)) (by decide +kernel) (by decide +kernel) ?_
        refine ty_iastore (pc := 92) (ks := []) (by decide +kernel) (by first | rfl | assumption) (by rfl) (by first | exact hS.1 _ _ rfl | assumption) (by first | exact hS.2.1 _ _ _ rfl | assumption) (by omega) ?_
        refine ty_aload_n (pc := 93) (i := 0) (ks := []) (by decide +kernel) rfl ?_
        first | refine ty_getS (pc := 94) (idx := 15) (ci := 2) (f := 2) (by decide +kernel) (by first | rfl | assumption) rfl (by first | exact hS.1 _ _ rfl | assumption) (by assumption) ?_ | (refine ty_getR (pc := 94) (idx := 15) (ci := 2) (f := 2) (by decide +kernel) (by first | rfl | assumption) rfl (by first | exact hS.1 _ _ rfl | assumption) (fun v hv => ?_); (first | simp (decide := true) only [ty_sI, ty_sR, ty_sA, ty_sQ, ty_mA, ty_mQ, ↓reduceIte, false_and, and_false, true_and, and_true, and_self, hne] at hv | simp (decide := true) only [ty_sI, ty_sR, ty_sA, ty_sQ, ty_mA, ty_mQ, ↓reduceIte, false_and, and_false, true_and, and_true, and_self] at hv | skip); (subst hv))
        refine ty_iload_n (pc := 97) (i := 3) (ks := []) (by decide +kernel) rfl ?_
        refine ty_iconst (pc := 98) (n := (-1)) (ks := []) (by decide +kernel) ?_
        refine ty_iastore (pc := 99) (ks := []) (by decide +kernel) (by first | rfl | assumption) (by rfl) (by first | exact hS.1 _ _ rfl | assumption) (by first | exact hS.2.1 _ _ _ rfl | assumption) (by omega) ?_
        refine ty_aload_n (pc := 100) (i := 0) (ks := []) (by decide +kernel) rfl ?_
        first | refine ty_getS (pc := 101) (idx := 18) (ci := 2) (f := 3) (by decide +kernel) (by first | rfl | assumption) rfl (by first | exact hS.1 _ _ rfl | assumption) (by assumption) ?_ | (refine ty_getR (pc := 101) (idx := 18) (ci := 2) (f := 3) (by decide +kernel) (by first | rfl | assumption) rfl (by first | exact hS.1 _ _ rfl | assumption) (fun v hv => ?_); (first | simp (decide := true) only [ty_sI, ty_sR, ty_sA, ty_sQ, ty_mA, ty_mQ, ↓reduceIte, false_and, and_false, true_and, and_true, and_self, hne] at hv | simp (decide := true) only [ty_sI, ty_sR, ty_sA, ty_sQ, ty_mA, ty_mQ, ↓reduceIte, false_and, and_false, true_and, and_true, and_self] at hv | skip); (subst hv))
        refine ty_iload_n (pc := 104) (i := 3) (ks := []) (by decide +kernel) rfl ?_
        refine ty_iconst (pc := 105) (n := (-1)) (ks := []) (by decide +kernel) ?_
        refine ty_iastore (pc := 106) (ks := []) (by decide +kernel) (by first | rfl | assumption) (by rfl) (by first | exact hS.1 _ _ rfl | assumption) (by first | exact hS.2.1 _ _ _ rfl | assumption) (by omega) ?_
        refine ty_iinc (pc := 107) (i := 3) (n := 1) (ks := []) (ls' := [_, _, _, _]) (by decide +kernel) rfl rfl ?_
        refine ty_goto (pc := 110) (off := (-33)) (t := 77) (ks := []) (by decide +kernel) ?_
        -- at 77: .iload_n 3
        rw [show (-2147483648 : Int) = mo_F from rfl, cm_3_put m1 m2 m3]
        simp only
        rw [cm_f_up h1, cm_f_up h1, cm_f_up h1]
        exact ih (v + 1) (by omega) (by omega)
  refine ty_aload_n (pc := 58) (i := 0) (ks := []) (by decide +kernel) rfl ?_
  refine ty_iload_n (pc := 59) (i := 2) (ks := []) (by decide +kernel) rfl ?_
  refine ty_iload_n (pc := 60) (i := 1) (ks := []) (by decide +kernel) rfl ?_
  refine ty_iadd (pc := 61) (ks := []) (by decide +kernel) ?_
  refine ty_putI (pc := 62) (idx := 21) (ci := 2) (f := 4) (by decide +kernel) (by first | rfl | assumption) rfl rfl (by first | exact hS.1 _ _ rfl | assumption) ?_
  refine ty_aload_n (pc := 65) (i := 0) (ks := []) (by decide +kernel) rfl ?_
  refine ty_dup (pc := 66) (ks := []) (by decide +kernel) rfl ?_
  refine ty_getI (pc := 67) (idx := 25) (ci := 2) (f := 5) (by decide +kernel) (by first | rfl | assumption) rfl (by first | exact hS.1 _ _ rfl | assumption) (fun v hv => ?_)
  first | simp (decide := true) only [ty_sI, ty_sR, ty_sA, ty_sQ, ty_mA, ty_mQ, ↓reduceIte, false_and, and_false, true_and, and_true, and_self, hne] at hv | simp (decide := true) only [ty_sI, ty_sR, ty_sA, ty_sQ, ty_mA, ty_mQ, ↓reduceIte, false_and, and_false, true_and, and_true, and_self] at hv | skip
  subst hv
  refine ty_iload_n (pc := 70) (i := 1) (ks := []) (by decide +kernel) rfl ?_
  refine ty_iadd (pc := 71) (ks := []) (by decide +kernel) ?_
  refine ty_putI (pc := 72) (idx := 25) (ci := 2) (f := 5) (by decide +kernel) (by first | rfl | assumption) rfl rfl (by first | exact hS.1 _ _ rfl | assumption) ?_
  refine ty_iload_n (pc := 75) (i := 2) (ks := []) (by decide +kernel) rfl ?_
  refine ty_istore_n (pc := 76) (i := 3) (ks := []) (ls' := [_, _, _, _]) (by decide +kernel) rfl ?_
  -- at 77: .iload_n 3
  have e5 : (ty_sI S (13, 0) 4 (first + many)).1 (13, 0) 5 = S.1 (13, 0) 5 := ty_sI_ne (by decide)
  have := loop many.toNat first (by omega) (by omega)
  have e6 : ∀ (f : Int → Int) (x : Int), cm_f f first first x = f := fun f x => by
    funext j
    simp only [cm_f]
    rw [if_neg (by omega)]
  rw [e6, e6, e6] at this
  have e7 : cm_3 T B F E (S.2.2.1 B, S.2.2.1 F, S.2.2.1 E) = T := by
    have : S.2.2.1 = T.2.2.1 := by rw [e2]
    rw [this]
    unfold cm_3
    rw [ty_mA_self, ty_mA_self, ty_mA_self]
  rw [e7, ← hT] at this
  exact this
theorem cm_n_I {first many : Int} : (cm_n S B F E first many).1 = (ty_sI (ty_sI S (13, 0) 4 (first + many)) (13, 0) 5 (S.1 (13, 0) 5 + many)).1 := rfl
/-- what make comes to: rows B', F', E' of length n' -/
def cm_R (S S' : ty_S) (B F E : ai_A) (n : Nat) (first many : Int) (B' F' E' : ai_A) (n' : Nat) : Prop := ty_st S' ∧ cv_sh S' B' F' E' n' ∧ (∀ b j, ¬ (b = (13, 0) ∧ (j = 4 ∨ j = 5)) → S'.1 b j = S.1 b j) ∧ S'.1 (13, 0) 4 = first + many ∧ S'.1 (13, 0) 5 = S.1 (13, 0) 5 + many ∧ first + many ≤ n' ∧
  (∀ b j, b ≠ (13, 0) → S'.2.1 b j = S.2.1 b j) ∧ (∀ v, 0 ≤ v → v < first → S'.2.2.1 B' v = S.2.2.1 B v ∧ S'.2.2.1 F' v = S.2.2.1 F v ∧ S'.2.2.1 E' v = S.2.2.1 E v) ∧ (∀ v, first ≤ v → v < first + many → S'.2.2.1 B' v = mo_F ∧ S'.2.2.1 F' v = -1 ∧ S'.2.2.1 E' v = -1) ∧
  (∀ b : ai_A, b.1 ≠ 23 → b.1 ≠ 24 → b.1 ≠ 25 → b.1 ≠ 48 → S'.2.2.1 b = S.2.2.1 b ∧ S'.2.2.2.2.2.1 b = S.2.2.2.2.2.1 b) ∧ (∀ b : ai_A, b.1 ≠ 48 → S'.2.2.2.1 b = S.2.2.2.1 b) ∧ S'.2.2.2.2.1 = S.2.2.2.2.1 ∧ (∀ s, s ≠ 48 → S'.2.2.2.2.2.2.1 s = S.2.2.2.2.2.2.1 s) ∧ S.2.2.2.2.2.2.1 48 ≤ S'.2.2.2.2.2.2.1 48 ∧
  ((n' = n ∧ S'.2.2.2.2.2.2.2 = S.2.2.2.2.2.2.2) ∨ ((n' : Int) = 2 * (first + many) ∧ 2 * n ≤ n' ∧ S'.2.2.2.2.2.2.2 = (S.2.2.2.2.2.2.2.1 + 3, S.2.2.2.2.2.2.2.2 + 3 * n')))
theorem cm_n_R (hS : ty_st S) (hV : cv_sh S B F E n) {first many : Int} (hr : 0 ≤ first ∧ 0 ≤ many ∧ first + many ≤ n) : cm_R S (cm_n S B F E first many) B F E n first many B F E n := by
  have d1 := hV.2.2.2.2.1
  have d6 := hV.2.2.2.2.2.1
  have aB : (cm_n S B F E first many).2.2.1 B = cm_f (S.2.2.1 B) first (first + many) mo_F := by
    show (ty_mA (ty_mA (ty_mA _ B _) F _) E _).2.2.1 B = _
    rw [ty_mA_ne d1.2.1, ty_mA_ne d1.1, ty_mA_at]
  have aF : (cm_n S B F E first many).2.2.1 F = cm_f (S.2.2.1 F) first (first + many) (-1) := by
    show (ty_mA (ty_mA (ty_mA _ B _) F _) E _).2.2.1 F = _
    rw [ty_mA_ne d1.2.2, ty_mA_at]
  have aE : (cm_n S B F E first many).2.2.1 E = cm_f (S.2.2.1 E) first (first + many) (-1) := by
    show (ty_mA (ty_mA (ty_mA _ B _) F _) E _).2.2.1 E = _
    rw [ty_mA_at]
  refine ⟨hS, hV, fun b j h => ?_, ?_, ?_, hr.2.2, fun b j _ => rfl, fun v h0 h1 => ?_, fun v h0 h1 => ?_, fun b h1 h2 h3 h4 => ⟨?_, rfl⟩, fun b _ => rfl, rfl, fun s _ => rfl, Nat.le_refl _, .inl ⟨rfl, rfl⟩⟩
  · rw [cm_n_I, ty_sI_ne (fun z => h ⟨z.1, .inr z.2⟩), ty_sI_ne (fun z => h ⟨z.1, .inl z.2⟩)]
  · rw [cm_n_I, ty_sI_ne (by decide)]
    exact ty_sI_at
  · rw [cm_n_I]
    exact ty_sI_at
  · rw [aB, aF, aE]
    simp only [cm_f]
    rw [if_neg (by omega), if_neg (by omega), if_neg (by omega)]
    exact ⟨rfl, rfl, rfl⟩
  · rw [aB, aF, aE]
    simp only [cm_f]
    rw [if_pos ⟨h0, h1⟩, if_pos ⟨h0, h1⟩, if_pos ⟨h0, h1⟩]
    exact ⟨rfl, rfl, rfl⟩
  · show (ty_mA (ty_mA (ty_mA _ B _) F _) E _).2.2.1 b = _
    rw [ty_mA_ne (fun z => by rw [z] at h1 h2 h3 h4; omega), ty_mA_ne (fun z => by rw [z] at h1 h2 h3 h4; omega), ty_mA_ne (fun z => by rw [z] at h1 h2 h3 h4; omega)]
    rfl
theorem cv_make (d : Nat) (hS : ty_st S) (hV : cv_sh S B F E n) {first many : Int} (hf : S.1 (13, 0) 4 = first) (hr : 0 ≤ first ∧ first ≤ n ∧ 0 ≤ many ∧ first + many ≤ 25000) :
    ty_C L xs (d + 2) 41 [.inr (.inr (some (13, 0))), .inl (ty_J many)] S (ty_oI fun z S' => z = first ∧ ∃ B' F' E' n', cm_R S S' B F E n first many B' F' E' n') := by
  have hV' := hV
  obtain ⟨⟨b1, b2, b3⟩, ⟨k1, k2, k3⟩, ⟨p1, p2, p3⟩, ⟨n1, n2, n3⟩, ⟨m1, m2, m3⟩, ⟨o1, o2, o3⟩, hn⟩ := hV
  refine ty_enter (ml := 4) (ls := [_, _, _, _]) rfl rfl (Nat.le_of_ble_eq_true rfl) ?_
  refine ty_aload_n (pc := 0) (i := 0) (ks := []) (by decide +kernel) rfl ?_
  refine ty_getI (pc := 1) (idx := 21) (ci := 2) (f := 4) (by decide +kernel) (by first | rfl | assumption) rfl (by first | exact hS.1 _ _ rfl | assumption) (fun v hv => ?_)
  subst hv
  refine ty_istore_n (pc := 4) (i := 2) (ks := []) (ls' := [_, _, _, _]) (by decide +kernel) rfl ?_
  -- at 5: .iload_n 2
  rw [hf]
  refine ty_iload_n (pc := 5) (i := 2) (ks := []) (by decide +kernel) rfl ?_
  refine ty_iload_n (pc := 6) (i := 1) (ks := []) (by decide +kernel) rfl ?_
  refine ty_iadd (pc := 7) (ks := []) (by decide +kernel) ?_
  refine ty_aload_n (pc := 8) (i := 0) (ks := []) (by decide +kernel) rfl ?_
  first | refine ty_getS (pc := 9) (idx := 9) (ci := 2) (f := 1) (by decide +kernel) (by first | rfl | assumption) rfl (by first | exact hS.1 _ _ rfl | assumption) (by assumption) ?_ | (refine ty_getR (pc := 9) (idx := 9) (ci := 2) (f := 1) (by decide +kernel) (by first | rfl | assumption) rfl (by first | exact hS.1 _ _ rfl | assumption) (fun v hv => ?_); (subst hv))
  refine ty_length (pc := 12) (ks := []) (by decide +kernel) (by first | exact .inl rfl | exact .inr rfl | exact .inl (by assumption) | exact .inr (by assumption)) (by decide) (by first | exact hS.1 _ _ rfl | assumption) (by first | exact hS.2.1 _ _ _ rfl | assumption) ?_
  -- at 13: .if_icmp .le 45
  refine ty_icmp_le (pc := 13) (off := 45) (t := 58) (ks := []) (by decide +kernel) (by omega) (by omega) (fun hc => ?_) (fun hc => ?_)
  · refine (cm_tail (d + 1) hS hV' (r := 0) ⟨hr.1, hr.2.2.1, hc⟩ none).mono ?_
    rintro o S' ⟨z, rfl, rfl, rfl⟩
    exact ⟨_, rfl, rfl, B, F, E, n, cm_n_R hS hV' ⟨hr.1, hr.2.2.1, hc⟩⟩
  · obtain ⟨m, hm⟩ : ∃ m : Nat, 2 * (first + many) = m := ⟨(2 * (first + many)).toNat, by omega⟩
    have nx : ∀ X : ai_A, X.2 < S.2.2.2.2.2.2.1 X.1 → X ≠ (48, S.2.2.2.2.2.2.1 48) := fun X h z => by rw [z] at h; simp at h
    have sk48 : ty_sk 48 = (2, 0) := by decide +kernel
    refine ty_iconst (pc := 16) (n := 2) (ks := []) (by decide +kernel) ?_
    refine ty_iload_n (pc := 17) (i := 2) (ks := []) (by decide +kernel) rfl ?_
    refine ty_iload_n (pc := 18) (i := 1) (ks := []) (by decide +kernel) rfl ?_
    refine ty_iadd (pc := 19) (ks := []) (by decide +kernel) ?_
    refine ty_imul (pc := 20) (ks := []) (by decide +kernel) ?_
    refine ty_istore_n (pc := 21) (i := 3) (ks := []) (ls' := [_, _, _, _]) (by decide +kernel) rfl ?_
    -- at 22: .aload_n 0
    rw [hm]
    refine ty_aload_n (pc := 22) (i := 0) (ks := []) (by decide +kernel) rfl ?_
    refine ty_aload_n (pc := 23) (i := 0) (ks := []) (by decide +kernel) rfl ?_
    first | refine ty_getS (pc := 24) (idx := 9) (ci := 2) (f := 1) (by decide +kernel) (by first | rfl | assumption) rfl (by first | exact hS.1 _ _ rfl | assumption) (by assumption) ?_ | (refine ty_getR (pc := 24) (idx := 9) (ci := 2) (f := 1) (by decide +kernel) (by first | rfl | assumption) rfl (by first | exact hS.1 _ _ rfl | assumption) (fun v hv => ?_); (subst hv))
    refine ty_iload_n (pc := 27) (i := 3) (ks := []) (by decide +kernel) rfl ?_
    -- at 28: .invokestatic 56
    refine ty_calls (pc := 28) (idx := 56) (m := 42) (n := 2) (c := 0) (av := [_, _]) (r := [_]) (by decide +kernel) rfl rfl (Nat.le_of_ble_eq_true rfl) (jd_copyOf d k1 p1 n1 (nx B p1) (m := (m : Int)) (by omega)) ?_
    rintro _ S1 ⟨z, rfl, rfl, rfl⟩
    refine ty_KR ?_
    rw [show ((m : Int)).toNat = m by omega]
    have hp1 : ((13, 0) : ai_A).2 < (ty_mA (ty_nA S 48 m) (48, S.2.2.2.2.2.2.1 48) (fun j => if 0 ≤ j ∧ j < (n : Int) then S.2.2.1 B j else 0)).2.2.2.2.2.2.1 ((13, 0) : ai_A).1 := by
      show 0 < (if 13 = 48 then S.2.2.2.2.2.2.1 48 + 1 else S.2.2.2.2.2.2.1 13)
      rw [if_neg (by decide)]
      exact hS.1 _ _ rfl
    refine ty_putR (pc := 31) (idx := 9) (ci := 2) (f := 1) (by decide +kernel) (by rfl) rfl rfl hp1 ?_
    have g1 := cm_g_of (S := S) (k := 1) (X := B) (n := n) (m := m)
    generalize ty_sR (ty_mA (ty_nA S 48 m) (48, S.2.2.2.2.2.2.1 48) (fun j => if 0 ≤ j ∧ j < (n : Int) then S.2.2.1 B j else 0)) (13, 0) 1 (some (48, S.2.2.2.2.2.2.1 48)) = S1 at g1
    have hS1 := cm_st g1 (.inl rfl) hS
    obtain ⟨g11, g12, ⟨g13, g14⟩, g15, g16, ⟨g17, g18⟩, ⟨g19, g1a⟩, g1b⟩ := g1
    have up1 : ∀ X : ai_A, X.2 < S.2.2.2.2.2.2.1 X.1 → X.2 < S1.2.2.2.2.2.2.1 X.1 := fun X h => by
      by_cases e : X.1 = 48
      · rw [e] at h ⊢; omega
      · rw [g1a _ e]; exact h
    have nx1 : ∀ X : ai_A, X.2 < S1.2.2.2.2.2.2.1 X.1 → X ≠ (48, S1.2.2.2.2.2.2.1 48) := fun X h z => by rw [z] at h; simp at h
    have b21 : S1.2.1 (13, 0) 2 = some F := by rw [g12, if_neg (by decide)]; exact b2
    have b31 : S1.2.1 (13, 0) 3 = some E := by rw [g12, if_neg (by decide)]; exact b3
    have b11 : S1.2.1 (13, 0) 1 = some (48, S.2.2.2.2.2.2.1 48) := by rw [g12, if_pos ⟨rfl, rfl⟩]
    have n21 : S1.2.2.2.2.2.1 F = n := by rw [g18 F (nx F p2)]; exact n2
    have n31 : S1.2.2.2.2.2.1 E = n := by rw [g18 E (nx E p3)]; exact n3
    have hS0 := hS
    have hS := hS1
    refine ty_aload_n (pc := 34) (i := 0) (ks := []) (by decide +kernel) rfl ?_
    refine ty_aload_n (pc := 35) (i := 0) (ks := []) (by decide +kernel) rfl ?_
    first | refine ty_getS (pc := 36) (idx := 15) (ci := 2) (f := 2) (by decide +kernel) (by first | rfl | assumption) rfl (by first | exact hS.1 _ _ rfl | assumption) (by assumption) ?_ | (refine ty_getR (pc := 36) (idx := 15) (ci := 2) (f := 2) (by decide +kernel) (by first | rfl | assumption) rfl (by first | exact hS.1 _ _ rfl | assumption) (fun v hv => ?_); (subst hv))
    refine ty_iload_n (pc := 39) (i := 3) (ks := []) (by decide +kernel) rfl ?_
    -- at 40: .invokestatic 56
    refine ty_calls (pc := 40) (idx := 56) (m := 42) (n := 2) (c := 0) (av := [_, _]) (r := [_]) (by decide +kernel) rfl rfl (Nat.le_of_ble_eq_true rfl) (jd_copyOf d k2 (up1 F p2) n21 (nx1 F (up1 F p2)) (m := (m : Int)) (by omega)) ?_
    rintro _ S2 ⟨z, rfl, rfl, rfl⟩
    refine ty_KR ?_
    rw [show ((m : Int)).toNat = m by omega]
    have hp2 : ((13, 0) : ai_A).2 < (ty_mA (ty_nA S1 48 m) (48, S1.2.2.2.2.2.2.1 48) (fun j => if 0 ≤ j ∧ j < (n : Int) then S1.2.2.1 F j else 0)).2.2.2.2.2.2.1 ((13, 0) : ai_A).1 := by
      show 0 < (if 13 = 48 then S1.2.2.2.2.2.2.1 48 + 1 else S1.2.2.2.2.2.2.1 13)
      rw [if_neg (by decide)]
      exact hS1.1 _ _ rfl
    refine ty_putR (pc := 43) (idx := 15) (ci := 2) (f := 2) (by decide +kernel) (by rfl) rfl rfl hp2 ?_
    have g2 := cm_g_of (S := S1) (k := 2) (X := F) (n := n) (m := m)
    generalize ty_sR (ty_mA (ty_nA S1 48 m) (48, S1.2.2.2.2.2.2.1 48) (fun j => if 0 ≤ j ∧ j < (n : Int) then S1.2.2.1 F j else 0)) (13, 0) 2 (some (48, S1.2.2.2.2.2.2.1 48)) = S2 at g2
    have hS2 := cm_st g2 (.inr (.inl rfl)) hS1
    obtain ⟨g21, g22, ⟨g23, g24⟩, g25, g26, ⟨g27, g28⟩, ⟨g29, g2a⟩, g2b⟩ := g2
    have up2 : ∀ X : ai_A, X.2 < S1.2.2.2.2.2.2.1 X.1 → X.2 < S2.2.2.2.2.2.2.1 X.1 := fun X h => by
      by_cases e : X.1 = 48
      · rw [e] at h ⊢; omega
      · rw [g2a _ e]; exact h
    have nx2 : ∀ X : ai_A, X.2 < S2.2.2.2.2.2.2.1 X.1 → X ≠ (48, S2.2.2.2.2.2.2.1 48) := fun X h z => by rw [z] at h; simp at h
    have b32 : S2.2.1 (13, 0) 3 = some E := by rw [g22, if_neg (by decide)]; exact b31
    have n32 : S2.2.2.2.2.2.1 E = n := by rw [g28 E (nx1 E (up1 E p3))]; exact n31
    have hS := hS2
    refine ty_aload_n (pc := 46) (i := 0) (ks := []) (by decide +kernel) rfl ?_
    refine ty_aload_n (pc := 47) (i := 0) (ks := []) (by decide +kernel) rfl ?_
    first | refine ty_getS (pc := 48) (idx := 18) (ci := 2) (f := 3) (by decide +kernel) (by first | rfl | assumption) rfl (by first | exact hS.1 _ _ rfl | assumption) (by assumption) ?_ | (refine ty_getR (pc := 48) (idx := 18) (ci := 2) (f := 3) (by decide +kernel) (by first | rfl | assumption) rfl (by first | exact hS.1 _ _ rfl | assumption) (fun v hv => ?_); (subst hv))
    refine ty_iload_n (pc := 51) (i := 3) (ks := []) (by decide +kernel) rfl ?_
    -- at 52: .invokestatic 56
    refine ty_calls (pc := 52) (idx := 56) (m := 42) (n := 2) (c := 0) (av := [_, _]) (r := [_]) (by decide +kernel) rfl rfl (Nat.le_of_ble_eq_true rfl) (jd_copyOf d k3 (up2 E (up1 E p3)) n32 (nx2 E (up2 E (up1 E p3))) (m := (m : Int)) (by omega)) ?_
    rintro _ S3 ⟨z, rfl, rfl, rfl⟩
    refine ty_KR ?_
    rw [show ((m : Int)).toNat = m by omega]
    have hp3 : ((13, 0) : ai_A).2 < (ty_mA (ty_nA S2 48 m) (48, S2.2.2.2.2.2.2.1 48) (fun j => if 0 ≤ j ∧ j < (n : Int) then S2.2.2.1 E j else 0)).2.2.2.2.2.2.1 ((13, 0) : ai_A).1 := by
      show 0 < (if 13 = 48 then S2.2.2.2.2.2.2.1 48 + 1 else S2.2.2.2.2.2.2.1 13)
      rw [if_neg (by decide)]
      exact hS2.1 _ _ rfl
    refine ty_putR (pc := 55) (idx := 18) (ci := 2) (f := 3) (by decide +kernel) (by rfl) rfl rfl hp3 ?_
    have g3 := cm_g_of (S := S2) (k := 3) (X := E) (n := n) (m := m)
    generalize ty_sR (ty_mA (ty_nA S2 48 m) (48, S2.2.2.2.2.2.2.1 48) (fun j => if 0 ≤ j ∧ j < (n : Int) then S2.2.2.1 E j else 0)) (13, 0) 3 (some (48, S2.2.2.2.2.2.2.1 48)) = S3 at g3
    have hS3 := cm_st g3 (.inr (.inr rfl)) hS2
    obtain ⟨g31, g32, ⟨g33, g34⟩, g35, g36, ⟨g37, g38⟩, ⟨g39, g3a⟩, g3b⟩ := g3
    generalize hc0 : S.2.2.2.2.2.2.1 48 = c0 at *
    have c1 : S1.2.2.2.2.2.2.1 48 = c0 + 1 := g19
    have c2 : S2.2.2.2.2.2.2.1 48 = c0 + 2 := by rw [g29, c1]
    have c3 : S3.2.2.2.2.2.2.1 48 = c0 + 3 := by rw [g39, c2]
    rw [c1] at g22 g23 g24 g25 g27 g28
    rw [c2] at g32 g33 g34 g35 g37 g38
    have q1 : ((48 : Nat), c0) ≠ (48, c0 + 1) := by simp
    have q2 : ((48 : Nat), c0) ≠ (48, c0 + 2) := by simp
    have q3 : ((48 : Nat), c0 + 1) ≠ (48, c0 + 2) := by simp
    have nF0 : F ≠ (48, c0) := nx F p2
    have nE0 : E ≠ (48, c0) := nx E p3
    have nE1 : E ≠ (48, c0 + 1) := by
      have := nx1 E (up1 E p3)
      rw [c1] at this
      exact this
    have hV3 : cv_sh S3 (48, c0) (48, c0 + 1) (48, c0 + 2) m := by
      refine ⟨⟨?_, ?_, ?_⟩, ⟨sk48, sk48, sk48⟩, ⟨?_, ?_, ?_⟩, ⟨?_, ?_, ?_⟩, ⟨q1, q2, q3⟩, ⟨.inr rfl, .inr rfl, .inr rfl⟩, by omega⟩
      · rw [g32, if_neg (by decide), g22, if_neg (by decide), g12, if_pos ⟨rfl, rfl⟩]
      · rw [g32, if_neg (by decide), g22, if_pos ⟨rfl, rfl⟩]
      · rw [g32, if_pos ⟨rfl, rfl⟩]
      · show c0 < S3.2.2.2.2.2.2.1 48
        omega
      · show c0 + 1 < S3.2.2.2.2.2.2.1 48
        omega
      · show c0 + 2 < S3.2.2.2.2.2.2.1 48
        omega
      · rw [g38 _ q2, g28 _ q1]; exact g17
      · rw [g38 _ q3]; exact g27
      · exact g37
    have hfin := cm_n_R hS3 hV3 (first := first) (many := many) ⟨hr.1, hr.2.2.1, by omega⟩
    refine (cm_tail (d + 1) hS3 hV3 (r := 0) ⟨hr.1, hr.2.2.1, by omega⟩ _).mono ?_
    rintro o S' ⟨z, rfl, rfl, rfl⟩
    refine ⟨_, rfl, rfl, (48, c0), (48, c0 + 1), (48, c0 + 2), m, ?_⟩
    obtain ⟨f1, f2, f3, f4, f5, f6, f7, f8, f9, f10, f11, f12, f13, f14, f15⟩ := hfin
    have i3 : S3.1 = S.1 := by rw [g31, g21, g11]
    refine ⟨f1, f2, fun b j h => by rw [f3 b j h, i3], f4, by rw [f5, i3], f6, fun b j h => ?_, fun v h0 h1 => ?_, f9, fun b h1 h2 h3 h4 => ?_, fun b h => ?_, ?_, fun s h => ?_, ?_, .inr ⟨hm.symm, by omega, ?_⟩⟩
    · rw [f7 b j h, g32, if_neg (fun z => h z.1), g22, if_neg (fun z => h z.1), g12, if_neg (fun z => h z.1)]
    · obtain ⟨y1, y2, y3⟩ := f8 v h0 h1
      refine ⟨?_, ?_, ?_⟩
      · rw [y1, g34 _ q2, g24 _ q1, g13]
        exact if_pos ⟨h0, by omega⟩
      · rw [y2, g34 _ q3, g23]
        show (if 0 ≤ v ∧ v < (n : Int) then S1.2.2.1 F v else 0) = _
        rw [if_pos ⟨h0, by omega⟩, g14 F nF0]
      · rw [y3, g33]
        show (if 0 ≤ v ∧ v < (n : Int) then S2.2.2.1 E v else 0) = _
        rw [if_pos ⟨h0, by omega⟩, g24 E nE1, g14 E nE0]
    · have t1 : ∀ q : Nat, b ≠ (48, q) := fun q z => h4 (by rw [z])
      obtain ⟨y1, y2⟩ := f10 b h1 h2 h3 h4
      exact ⟨by rw [y1, g34 b (t1 _), g24 b (t1 _), g14 b (t1 _)], by rw [y2, g38 b (t1 _), g28 b (t1 _), g18 b (t1 _)]⟩
    · have t1 : ∀ q : Nat, b ≠ (48, q) := fun q z => h (by rw [z])
      rw [f11 b h, g35 b (t1 _), g25 b (t1 _), g15 b (t1 _)]
    · rw [f12, g36, g26, g16]
    · rw [f13 s h, g3a s h, g2a s h, g1a s h]
    · rw [hc0]; omega
    · rcases f15 with ⟨-, z⟩ | ⟨z, z2, -⟩
      · have y1 : S3.2.2.2.2.2.2.2.1 = S.2.2.2.2.2.2.2.1 + 3 := by rw [g3b, g2b, g1b]
        have y2 : S3.2.2.2.2.2.2.2.2 = S.2.2.2.2.2.2.2.2 + 3 * m := by
          rw [g3b, g2b, g1b]
          show S.2.2.2.2.2.2.2.2 + m + m + m = _
          omega
        rw [z]
        exact Prod.ext y1 y2
      · exfalso
        have : 0 < m := by omega
        omega
end CVM
