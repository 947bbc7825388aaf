/-! The class reads a goal. -/
/-- a clause's goals: k of them in these rows -/
def cr_b (S : ty_S) (a : ai_A) (x : Nat) (k : Int) (sg lf rt : Int → Int) : ty_S := ty_sI (ty_mA (ty_mA (ty_mA S (31, x) sg) (32, x) lf) (33, x) rt) a 4 k
/-- a goal of text x -/
def pt_abs (x : Nat) (g : Int × Int × Int) : Int × Int × Int := if g.1 = 33 then (33, 0, 0) else (g.1, 48 * x + g.2.1, 48 * x + g.2.2)
section CRG
variable {L : Nat} {xs : Nat → Int32} {S : ty_S} {n : Int} {a : ai_A} {x : Nat}
theorem cr_b_R (hR : cr_R S n a x) {k : Int} {sg lf rt : Int → Int} : cr_R (cr_b S a x k sg lf rt) n a x := by
  obtain ⟨r1, r2, r3, r4, r5, r6, r7, r8⟩ := hR
  have haR := cr_cl_ne r5
  refine ⟨r1, r2, ?_, r4, r5, ?_, r7, r8⟩
  · exact (ty_sI_ne (fun w => haR w.1.symm)).trans r3
  · exact (ty_sI_ne (fun w => absurd w.2 (by decide))).trans r6
theorem cr_b_h {k : Int} {sg lf rt : Int → Int} : cr_h (cr_b S a x k sg lf rt) n = cr_h S n := rfl
theorem cr_b_put (haR : a ≠ (16, 0)) {k s y z p : Int} {sg lf rt l ar g : Int → Int} : ty_sI (ty_sA (ty_sA (ty_sA (cr_s (cr_b S a x k sg lf rt) p l ar g) (31, x) k s) (32, x) k y) (33, x) k z) a 4 (k + 1) = cr_s (cr_b S a x (k + 1) (mo_up sg k s) (mo_up lf k y) (mo_up rt k z)) p l ar g := by
  refine Prod.ext ?_ (Prod.ext rfl (Prod.ext ?_ rfl))
  · funext b j
    show (if b = a ∧ j = 4 then k + 1 else if b = (16, 0) ∧ j = 3 then p else if b = a ∧ j = 4 then k else S.1 b j) = if b = (16, 0) ∧ j = 3 then p else if b = a ∧ j = 4 then k + 1 else S.1 b j
    by_cases e : b = a ∧ j = 4
    · rw [if_pos e, if_neg (fun w => haR (e.1.symm.trans w.1)), if_pos e]
    · rw [if_neg e, if_neg e, if_neg e]
  · funext b j
    show (if b = (33, x) ∧ j = k then z else if b = (32, x) ∧ j = k then y else if b = (31, x) ∧ j = k then s else (if b = (21, 0) then g else if b = (20, 0) then ar else if b = (19, 0) then l else if b = (33, x) then rt else if b = (32, x) then lf else if b = (31, x) then sg else S.2.2.1 b) j) = (if b = (21, 0) then g else if b = (20, 0) then ar else if b = (19, 0) then l else if b = (33, x) then mo_up rt k z else if b = (32, x) then mo_up lf k y else if b = (31, x) then mo_up sg k s else S.2.2.1 b) j
    by_cases e1 : b = (21, 0)
    · subst e1
      simp
    by_cases e2 : b = (20, 0)
    · subst e2
      simp
    by_cases e3 : b = (19, 0)
    · subst e3
      simp
    rw [if_neg e1, if_neg e2, if_neg e3, if_neg e1, if_neg e2, if_neg e3]
    by_cases e4 : b = (33, x)
    · subst e4
      simp [mo_up]
    by_cases e5 : b = (32, x)
    · subst e5
      simp [mo_up]
    by_cases e6 : b = (31, x)
    · subst e6
      simp [mo_up]
    simp [e4, e5, e6]
theorem cr_putGoal (d : Nat) (hR : cr_R S n a x) {k s y z p : Int} {sg lf rt l ar g : Int → Int} (hk : 0 ≤ k ∧ k < 24) (hs : 0 ≤ s ∧ s ≤ 65535) :
    ty_C L xs (d + 1) 30 [.inr (.inr (some a)), .inl (ty_J s), .inl (ty_J y), .inl (ty_J z)] (cr_s (cr_b S a x k sg lf rt) p l ar g) (ty_oV fun S' => S' = cr_s (cr_b S a x (k + 1) (mo_up sg k s) (mo_up lf k y) (mo_up rt k z)) p l ar g) := by
  have haR := cr_cl_ne hR.2.2.2.2.1
  have hput := cr_b_put (S := S) (x := x) haR (k := k) (s := s) (y := y) (z := z) (p := p) (sg := sg) (lf := lf) (rt := rt) (l := l) (ar := ar) (g := g)
  have hS : ty_st (cr_s (cr_b S a x k sg lf rt) p l ar g) := hR.1
  obtain ⟨f1, f2, ⟨f3, f4, f5, -⟩, ⟨f7, f8, f9, -⟩, f11, f12, f13, -⟩ := cs_cl_facts hS hR.2.2.2.2.1
  have ek : (cr_s (cr_b S a x k sg lf rt) p l ar g).1 a 4 = k := (cr_s_I (fun w => haR w.1)).trans ty_sI_at
  generalize hT : cr_s (cr_b S a x k sg lf rt) p l ar g = T at hput hS f1 f2 f3 f4 f5 f7 f8 f9 f11 f12 f13 ek
  have p31 : ((31, x) : ai_A).2 < T.2.2.2.2.2.2.1 ((31, x) : ai_A).1 := f7
  have p32 : ((32, x) : ai_A).2 < T.2.2.2.2.2.2.1 ((32, x) : ai_A).1 := f8
  have p33 : ((33, x) : ai_A).2 < T.2.2.2.2.2.2.1 ((33, x) : ai_A).1 := f9
  have s31 : ty_sk ((31, x) : ai_A).1 = (2, 1) := by show ty_sk 31 = (2, 1); decide +kernel
  have s32 : ty_sk ((32, x) : ai_A).1 = (2, 0) := by show ty_sk 32 = (2, 0); decide +kernel
  have s33 : ty_sk ((33, x) : ai_A).1 = (2, 0) := by show ty_sk 33 = (2, 0); decide +kernel
  have hkT : 0 ≤ T.1 a 4 ∧ T.1 a 4 < 24 := by rw [ek]; exact hk
  refine ty_enter (ml := 4) (ls := [_, _, _, _]) rfl rfl (Nat.le_of_ble_eq_true rfl) ?_
  refine ty_aload_n (pc := 0) (i := 0) (ks := []) (by decide +kernel) rfl ?_
  refine ty_getI (pc := 1) (idx := 22) (ci := 3) (f := 4) (by decide +kernel) (by first | rfl | assumption) rfl (by first | exact hS.1 _ _ rfl | assumption) (fun v hv => ?_)
  subst hv
  refine ty_bipush (pc := 4) (n := 24) (ks := []) (by decide +kernel) (by omega) ?_
  -- at 6: .if_icmp .ge 43
  refine ty_icmp_ge (pc := 6) (off := 43) (t := 49) (ks := []) (by decide +kernel) (by omega) (by omega) (fun hc => ?_) (fun hc => ?_)
  · omega
  clear hc
  refine ty_aload_n (pc := 9) (i := 0) (ks := []) (by decide +kernel) rfl ?_
  refine ty_getS (pc := 10) (idx := 9) (ci := 3) (f := 1) (by decide +kernel) (by first | rfl | assumption) rfl (by first | exact hS.1 _ _ rfl | assumption) (by first | exact hS.2.2 _ _ _ _ rfl | assumption) ?_
  refine ty_aload_n (pc := 13) (i := 0) (ks := []) (by decide +kernel) rfl ?_
  refine ty_getI (pc := 14) (idx := 22) (ci := 3) (f := 4) (by decide +kernel) (by first | rfl | assumption) rfl (by first | exact hS.1 _ _ rfl | assumption) (fun v hv => ?_)
  subst hv
  refine ty_iload_n (pc := 17) (i := 1) (ks := []) (by decide +kernel) rfl ?_
  refine ty_castore (pc := 18) (ks := []) (by decide +kernel) (by first | rfl | assumption) (by rfl) (by first | exact hS.1 _ _ rfl | assumption) (by first | exact hS.2.1 _ _ _ rfl | assumption) (by omega) (by omega) ?_
  refine ty_aload_n (pc := 19) (i := 0) (ks := []) (by decide +kernel) rfl ?_
  refine ty_getS (pc := 20) (idx := 15) (ci := 3) (f := 2) (by decide +kernel) (by first | rfl | assumption) rfl (by first | exact hS.1 _ _ rfl | assumption) (by first | exact hS.2.2 _ _ _ _ rfl | assumption) ?_
  refine ty_aload_n (pc := 23) (i := 0) (ks := []) (by decide +kernel) rfl ?_
  refine ty_getI (pc := 24) (idx := 22) (ci := 3) (f := 4) (by decide +kernel) (by first | rfl | assumption) rfl (by first | exact hS.1 _ _ rfl | assumption) (fun v hv => ?_)
  first | simp (decide := true) only [ty_sI, ty_sR, ty_sA, ty_sQ, ty_mA, ty_mQ, ↓reduceIte, false_and, and_false, true_and, and_true, and_self, hne] at hv | simp (decide := true) only [ty_sI, ty_sR, ty_sA, ty_sQ, ty_mA, ty_mQ, ↓reduceIte, false_and, and_false, true_and, and_true, and_self] at hv | skip
  subst hv
  refine ty_iload_n (pc := 27) (i := 2) (ks := []) (by decide +kernel) rfl ?_
  refine ty_iastore (pc := 28) (ks := []) (by decide +kernel) (by first | rfl | assumption) (by rfl) (by first | exact hS.1 _ _ rfl | assumption) (by first | exact hS.2.1 _ _ _ rfl | assumption) (by omega) ?_
  refine ty_aload_n (pc := 29) (i := 0) (ks := []) (by decide +kernel) rfl ?_
  refine ty_getS (pc := 30) (idx := 19) (ci := 3) (f := 3) (by decide +kernel) (by first | rfl | assumption) rfl (by first | exact hS.1 _ _ rfl | assumption) (by first | exact hS.2.2 _ _ _ _ rfl | assumption) ?_
  refine ty_aload_n (pc := 33) (i := 0) (ks := []) (by decide +kernel) rfl ?_
  refine ty_getI (pc := 34) (idx := 22) (ci := 3) (f := 4) (by decide +kernel) (by first | rfl | assumption) rfl (by first | exact hS.1 _ _ rfl | assumption) (fun v hv => ?_)
  first | simp (decide := true) only [ty_sI, ty_sR, ty_sA, ty_sQ, ty_mA, ty_mQ, ↓reduceIte, false_and, and_false, true_and, and_true, and_self, hne] at hv | simp (decide := true) only [ty_sI, ty_sR, ty_sA, ty_sQ, ty_mA, ty_mQ, ↓reduceIte, false_and, and_false, true_and, and_true, and_self] at hv | skip
  subst hv
  refine ty_iload_n (pc := 37) (i := 3) (ks := []) (by decide +kernel) rfl ?_
  refine ty_iastore (pc := 38) (ks := []) (by decide +kernel) (by first | rfl | assumption) (by rfl) (by first | exact hS.1 _ _ rfl | assumption) (by first | exact hS.2.1 _ _ _ rfl | assumption) (by omega) ?_
  refine ty_aload_n (pc := 39) (i := 0) (ks := []) (by decide +kernel) rfl ?_
  refine ty_dup (pc := 40) (ks := []) (by decide +kernel) rfl ?_
  refine ty_getI (pc := 41) (idx := 22) (ci := 3) (f := 4) (by decide +kernel) (by first | rfl | assumption) rfl (by first | exact hS.1 _ _ rfl | assumption) (fun v hv => ?_)
  first | simp (decide := true) only [ty_sI, ty_sR, ty_sA, ty_sQ, ty_mA, ty_mQ, ↓reduceIte, false_and, and_false, true_and, and_true, and_self, hne] at hv | simp (decide := true) only [ty_sI, ty_sR, ty_sA, ty_sQ, ty_mA, ty_mQ, ↓reduceIte, false_and, and_false, true_and, and_true, and_self] at hv | skip
  subst hv
  refine ty_iconst (pc := 44) (n := 1) (ks := []) (by decide +kernel) ?_
  refine ty_iadd (pc := 45) (ks := []) (by decide +kernel) ?_
  refine ty_putI (pc := 46) (idx := 22) (ci := 3) (f := 4) (by decide +kernel) (by first | rfl | assumption) rfl rfl (by first | exact hS.1 _ _ rfl | assumption) ?_
  -- at 49: .return_
  refine ty_ret_v (pc := 49) (ks := []) (by decide +kernel) rfl ?_
  refine ⟨rfl, ?_⟩
  rw [ek]
  exact hput
end CRG
