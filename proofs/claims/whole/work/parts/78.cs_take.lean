/-! A clause is taken. -/
/-- which text is in use -/
def cs_tk (S : ty_S) (P : mo_P) (tk : Option (Int × Int × Int)) : Prop := match tk with
  | none => S.2.1 (17, 0) 13 = none
  | some (i, base, bar) => ∃ a x, S.2.1 (17, 0) 13 = some a ∧ cs_cl a x ∧ cs_co S a x (P.2.2.1 i) (P.2.2.2.1 i) (P.2.2.2.2 i) ∧ S.1 (17, 0) 14 = base ∧ S.1 (17, 0) 15 = bar
/-- some ghosts fit -/
def cs_X (S : ty_S) (P : mo_P) (K : Nat × Nat) (th : Nat) (M : mo_M) (ps : List (Int × Int)) (wk : List Int) (fl : Bool) : Prop := ∃ B F E n D1 n1 c1 D2 n2 c2 u W, cs_R S P K th M ps wk fl B F E n D1 n1 c1 D2 n2 c2 u W
/-- the search's own objects, its own rows, and what it makes -/
def cs_so : List Nat := [17, 13, 38, 39, 37, 35, 36, 49, 52]
def cs_sa : List Nat := [23, 24, 25, 26, 27, 28, 29, 30, 40, 41, 42, 43, 44, 45, 46, 48, 50, 51]
def cs_sc : List Nat := [48, 49, 50, 51, 52]
/-- what the search leaves alone -/
def cs_F (S S' : ty_S) : Prop := (∀ b : ai_A, b.1 ∉ cs_so → ∀ j, S'.1 b j = S.1 b j ∧ S'.2.1 b j = S.2.1 b j) ∧ (∀ b : ai_A, b.1 ∉ cs_sa → S'.2.2.1 b = S.2.2.1 b ∧ (b.1 ≠ 0 → S'.2.2.2.1 b = S.2.2.2.1 b) ∧ S'.2.2.2.2.2.1 b = S.2.2.2.2.2.1 b) ∧ S'.2.2.2.2.1 = S.2.2.2.2.1 ∧ ∀ s, s ∉ cs_sc → S'.2.2.2.2.2.2.1 s = S.2.2.2.2.2.2.1 s
theorem cs_F.refl {S : ty_S} : cs_F S S := ⟨fun _ _ _ => ⟨rfl, rfl⟩, fun _ _ => ⟨rfl, fun _ => rfl, rfl⟩, rfl, fun _ _ => rfl⟩
theorem cs_F.trans {S S1 S2 : ty_S} (h : cs_F S S1) (g : cs_F S1 S2) : cs_F S S2 :=
  ⟨fun b a j => ⟨(g.1 b a j).1.trans (h.1 b a j).1, (g.1 b a j).2.trans (h.1 b a j).2⟩, fun b a => ⟨(g.2.1 b a).1.trans (h.2.1 b a).1, fun z => ((g.2.1 b a).2.1 z).trans ((h.2.1 b a).2.1 z), (g.2.1 b a).2.2.trans (h.2.1 b a).2.2⟩, g.2.2.1.trans h.2.2.1, fun s a => (g.2.2.2 s a).trans (h.2.2.2 s a)⟩
theorem cs_F_ne {l : List Nat} {s k : Nat} (h : s ∉ l) (hk : l.contains k = true) : s ≠ k := fun z => h (by rw [z]; exact List.contains_iff_mem.mp hk)
theorem cs_f.F {S S' : ty_S} (h : cs_f S S') : cs_F S S' :=
  ⟨fun b a j => h.1 b (cs_F_ne a rfl) (cs_F_ne a rfl) (cs_F_ne a rfl) (cs_F_ne a rfl) (cs_F_ne a rfl) j, fun b a => h.2.1 b (cs_F_ne a rfl) (cs_F_ne a rfl), h.2.2.1, fun s a => h.2.2.2 s (cs_F_ne a rfl) (cs_F_ne a rfl) (cs_F_ne a rfl) (cs_F_ne a rfl)⟩
theorem cs_F_fst {b : ai_A} {s i : Nat} (h : b.1 ≠ s) : b ≠ (s, i) := fun z => h (congrArg Prod.fst z)
theorem ca_fm.F {S S' : ty_S} {B F E : ai_A} {n : Nat} (hV : cv_sh S B F E n) (h : ca_fm S S' B F E) : cs_F S S' := by
  refine ⟨fun b a j => ⟨h.1 b j (cs_F_fst (cs_F_ne a rfl)) (cs_F_fst (cs_F_ne a rfl)) (cs_F_fst (cs_F_ne a rfl)) (fun z => cs_F_fst (cs_F_ne a rfl) z.1), by rw [h.2.1]⟩, fun b a => ⟨?_, fun _ => by rw [h.2.2.2.1], by rw [h.2.2.2.2.2.1]⟩, h.2.2.2.2.1, fun s _ => by rw [h.2.2.2.2.2.2]⟩
  obtain ⟨-, n1, n2, n3⟩ := cv_ne hV (s := b.1) (i := b.2) ⟨cs_F_ne a rfl, cs_F_ne a rfl, cs_F_ne a rfl, cs_F_ne a rfl⟩
  exact h.2.2.1 b n1 n2 n3 (cs_F_fst (cs_F_ne a rfl)) (cs_F_fst (cs_F_ne a rfl)) (cs_F_fst (cs_F_ne a rfl)) (cs_F_fst (cs_F_ne a rfl)) (cs_F_fst (cs_F_ne a rfl)) (cs_F_fst (cs_F_ne a rfl)) (cs_F_fst (cs_F_ne a rfl)) (cs_F_fst (cs_F_ne a rfl)) (cs_F_fst (cs_F_ne a rfl))
theorem cm_R.F {S S' : ty_S} {B F E B' F' E' : ai_A} {n n' : Nat} {first many : Int} (h : cm_R S S' B F E n first many B' F' E' n') : cs_F S S' := by
  obtain ⟨m1, m2, m3, m4, m5, m6, m7, m8, m9, m10, m11, m12, m13, m14, m15⟩ := h
  refine ⟨fun b a j => ⟨m3 b j (fun z => cs_F_fst (cs_F_ne a rfl) z.1), m7 b j (cs_F_fst (cs_F_ne a rfl))⟩, fun b a => ?_, m12, fun s a => m13 s (cs_F_ne a rfl)⟩
  obtain ⟨p1, p2⟩ := m10 b (cs_F_ne a rfl) (cs_F_ne a rfl) (cs_F_ne a rfl) (cs_F_ne a rfl)
  exact ⟨p1, fun _ => m11 b (cs_F_ne a rfl), p2⟩
/-- ints of the search's own objects -/
theorem cs_F_own {S S' : ty_S} (e3 : S'.2.2 = S.2.2) (oI : ∀ b j, b ≠ (17, 0) → S'.1 b j = S.1 b j) (oR : ∀ b j, b ≠ (17, 0) → S'.2.1 b j = S.2.1 b j) : cs_F S S' :=
  ⟨fun b a j => ⟨oI b j (cs_F_fst (cs_F_ne a rfl)), oR b j (cs_F_fst (cs_F_ne a rfl))⟩, fun b _ => by rw [e3]; exact ⟨rfl, fun _ => rfl, rfl⟩, by rw [e3], fun s _ => by rw [e3]⟩
theorem cs_cl_so {a : ai_A} {x : Nat} (h : cs_cl a x) : a.1 ∉ cs_so := by
  rcases h with ⟨rfl, -⟩ | ⟨rfl, -⟩
  · show (14 : Nat) ∉ cs_so
    decide
  · decide
theorem cs_co_F {S S' : ty_S} (hf : cs_F S S') {a : ai_A} {x : Nat} (hx : cs_cl a x) {start nv : Int} {gs : List (Int × Int × Int)} (h : cs_co S a x start nv gs) : cs_co S' a x start nv gs := by
  have ha : ∀ j, S'.1 a j = S.1 a j := fun j => (hf.1 a (cs_cl_so hx) j).1
  unfold cs_co
  rw [ha, ha, ha, (hf.2.1 (31, x) (show (31 : Nat) ∉ cs_sa by decide)).1, (hf.2.1 (32, x) (show (32 : Nat) ∉ cs_sa by decide)).1, (hf.2.1 (33, x) (show (33 : Nat) ∉ cs_sa by decide)).1]
  exact h
section CSK
variable {L : Nat} {xs : Nat → Int32} {S : ty_S}
theorem cs_takeClause (d : Nat) {P : mo_P} (hW : mo_PW P) {K : Nat × Nat} {th : Nat} {st came : Int} {sl al ar : Int → Int} {made : Int} {bd : Int → Int} {ch : Int → List Int} {ns : Int} {dn : List Int} {an : Int} {aw : Int → Bool} {todo : List mo_Go} {cs : List mo_Ch} {ans : Int} {wk : List Int} {fl : Bool}
    (h : cs_X S P K th (st, came, sl, al, ar, (made, bd, ch, ns, dn, an, aw), todo, cs, ans) [] wk fl) {t i bar : Int} (hi : 0 ≤ i ∧ i < P.2.1) (ht : mo_ok P.1 made t) (hfit : mo_fits P t i = true) (hmd : 0 ≤ made ∧ made ≤ 24000) :
    ty_C L xs (d + 3) 70 [.inr (.inr (some (17, 0))), .inl (ty_J t), .inl (ty_J i), .inl (ty_J bar)] S (ty_oV fun S' => cs_X S' P K th (mo_ta P (st, came, sl, al, ar, (made, bd, ch, ns, dn, an, aw), todo, cs, ans) t i bar).2.1 (mo_ta P (st, came, sl, al, ar, (made, bd, ch, ns, dn, an, aw), todo, cs, ans) t i bar).2.2.1 wk fl ∧ cs_tk S' P (some (i, made, bar)) ∧ cs_F S S' ∧ S'.1 (17, 0) 8 = S.1 (17, 0) 8) := by
  obtain ⟨B, F, E, n, D1, n1, c1, D2, n2, c2, u, W, hR⟩ := h
  have hR0 := hR
  obtain ⟨h1, h2, h3, -⟩ := hR
  have hS := h1.1
  obtain ⟨p1, p2, p3, p4⟩ := h3
  obtain ⟨a, x, q1, q2, q3⟩ := p4 i hi.1 hi.2
  obtain ⟨w1, w2, w3⟩ := hW
  obtain ⟨⟨g1, g2, g3⟩, ⟨g4, g5, g6⟩, -⟩ := w3 i hi.1 hi.2
  refine ty_enter (ml := 4) (ls := [_, _, _, _]) rfl rfl (Nat.le_of_ble_eq_true rfl) ?_
  refine ty_aload_n (pc := 0) (i := 0) (ks := []) (by decide +kernel) rfl ?_
  refine ty_aload_n (pc := 1) (i := 0) (ks := []) (by decide +kernel) rfl ?_
  refine ty_getS (pc := 2) (idx := 73) (ci := 5) (f := 5) (by decide +kernel) (by rfl) rfl (hS.1 _ _ rfl) p2 ?_
  refine ty_iload_n (pc := 5) (i := 2) (ks := []) (by decide +kernel) rfl ?_
  refine ty_aaload (pc := 6) (ks := []) (by decide +kernel) (by rfl) (by rfl) (hS.1 _ _ rfl) (hS.2.1 _ _ _ rfl) (by omega) (fun v hv => ?_)
  rw [q1] at hv
  subst hv
  refine ty_putR (pc := 7) (idx := 104) (ci := 5) (f := 13) (by decide +kernel) (by rfl) rfl rfl (hS.1 _ _ rfl) ?_
  have hS1 : ty_st (ty_sR S (17, 0) 13 (some a)) := ty_st.sR (by decide +kernel) hS
  have hR1 : cs_R (ty_sR S (17, 0) 13 (some a)) P K th (st, came, sl, al, ar, (made, bd, ch, ns, dn, an, aw), todo, cs, ans) [] wk fl B F E n D1 n1 c1 D2 n2 c2 u W := cs_R_own hR0 hS1 rfl (fun _ _ _ => rfl) (fun b j hb => if_neg hb)
  have htk1 : (ty_sR S (17, 0) 13 (some a)).2.1 (17, 0) 13 = some a := by simp [ty_sR]
  have hco1 : cs_co (ty_sR S (17, 0) 13 (some a)) a x (P.2.2.1 i) (P.2.2.2.1 i) (P.2.2.2.2 i) := q3
  have hF1 : cs_F S (ty_sR S (17, 0) 13 (some a)) := cs_F_own rfl (fun _ _ _ => rfl) (fun b j hb => if_neg (fun z => hb z.1))
  have hu1 : (ty_sR S (17, 0) 13 (some a)).1 (17, 0) 8 = S.1 (17, 0) 8 := rfl
  generalize ty_sR S (17, 0) 13 (some a) = S1 at hS1 hR1 htk1 hco1 hF1 hu1
  clear hR0 h1 h2 p1 p2 p3 p4 q1 q3 hS
  have hS := hS1
  obtain ⟨f1, f2, -⟩ := cs_cl_facts hS q2
  have hV1 := hR1.1.2.1
  have hmade1 := hR1.1.2.2.2.1
  refine ty_aload_n (pc := 10) (i := 0) (ks := []) (by decide +kernel) rfl ?_
  refine ty_aload_n (pc := 11) (i := 0) (ks := []) (by decide +kernel) rfl ?_
  refine ty_getS (b := (13, 0)) (pc := 12) (idx := 52) (ci := 5) (f := 1) (by decide +kernel) (by first | rfl | assumption) rfl (by first | exact hS.1 _ _ rfl | assumption) (by first | exact hS.2.2 _ _ _ _ rfl | assumption) ?_
  refine ty_aload_n (pc := 15) (i := 0) (ks := []) (by decide +kernel) rfl ?_
  first | refine ty_getS (pc := 16) (idx := 104) (ci := 5) (f := 13) (by decide +kernel) (by first | rfl | assumption) rfl (by first | exact hS.1 _ _ rfl | assumption) (by assumption) ?_ | (refine ty_getR (pc := 16) (idx := 104) (ci := 5) (f := 13) (by decide +kernel) (by first | rfl | assumption) rfl (by first | exact hS.1 _ _ rfl | assumption) (fun v hv => ?_); (subst hv))
  refine ty_getI (pc := 19) (idx := 90) (ci := 3) (f := 6) (by decide +kernel) (by first | rfl | assumption) rfl (by first | exact hS.1 _ _ rfl | assumption) (fun v hv => ?_)
  subst hv
  -- at 22: .invokevirtual 94
  rw [hco1.2.1]
  refine ty_callv (pc := 22) (idx := 94) (m := 41) (n := 2) (c := 2) (vs := [_]) (r := [_]) (by decide +kernel) rfl rfl (Nat.le_of_ble_eq_true rfl) (by first | rfl | assumption) (by first | exact hS.1 _ _ rfl | assumption) (cv_make _ hS hV1 hmade1.1 ⟨hmade1.2.1, hmade1.2.2, g5, by omega⟩) ?_
  rintro _ S2 ⟨z, rfl, rfl, B', F', E', n', hm⟩
  refine ty_KI ?_
  have hR2 := cs_R_make hR1 hm ⟨g5, by omega⟩
  have hF2 := hm.F
  have hco2 := cs_co_F hF2 q2 hco1
  have htk2 : S2.2.1 (17, 0) 13 = some a := by
    rw [hm.2.2.2.2.2.2.1 _ _ (by decide)]
    exact htk1
  have hu2 : S2.1 (17, 0) 8 = S.1 (17, 0) 8 := (hm.2.2.1 _ _ (by decide)).trans hu1
  have hS2 : ty_st S2 := hR2.1.1
  clear hm hR1 htk1 hco1 hS hS1 f1 f2 hV1
  have hS := hS2
  refine ty_putI (pc := 25) (idx := 34) (ci := 5) (f := 14) (by decide +kernel) (by first | rfl | assumption) rfl rfl (by first | exact hS.1 _ _ rfl | assumption) ?_
  refine ty_aload_n (pc := 28) (i := 0) (ks := []) (by decide +kernel) rfl ?_
  refine ty_iload_n (pc := 29) (i := 3) (ks := []) (by decide +kernel) rfl ?_
  refine ty_putI (pc := 30) (idx := 37) (ci := 5) (f := 15) (by decide +kernel) (by first | rfl | assumption) rfl rfl (by first | exact hS.1 _ _ rfl | assumption) ?_
  -- at 33: .aload_n 0
  have hR3 : cs_R (ty_sI (ty_sI S2 (17, 0) 14 z) (17, 0) 15 bar) P K th (st, came + P.2.2.2.1 i, sl, al, ar, (z + P.2.2.2.1 i, mo_nb bd z (z + P.2.2.2.1 i), mo_nc ch z (z + P.2.2.2.1 i), ns, dn, an, aw), todo, cs, ans) [] wk fl B' F' E' n' D1 n1 c1 D2 n2 c2 u W := cs_R_own hR2 hS2 rfl (fun b j hb => by
    show (if b = (17, 0) ∧ j = 15 then bar else if b = (17, 0) ∧ j = 14 then z else S2.1 b j) = _
    rw [if_neg (fun w => hb ⟨w.1, .inr w.2⟩), if_neg (fun w => hb ⟨w.1, .inl w.2⟩)]) (fun _ _ _ => rfl)
  have hF3 : cs_F S2 (ty_sI (ty_sI S2 (17, 0) 14 z) (17, 0) 15 bar) := cs_F_own rfl (fun b j hb => by
    show (if b = (17, 0) ∧ j = 15 then bar else if b = (17, 0) ∧ j = 14 then z else S2.1 b j) = _
    rw [if_neg (fun w => hb w.1), if_neg (fun w => hb w.1)]) (fun _ _ _ => rfl)
  have hco3 := cs_co_F hF3 q2 hco2
  have htk3 : (ty_sI (ty_sI S2 (17, 0) 14 z) (17, 0) 15 bar).2.1 (17, 0) 13 = some a := htk2
  have hb3 : (ty_sI (ty_sI S2 (17, 0) 14 z) (17, 0) 15 bar).1 (17, 0) 14 = z := by simp [ty_sI]
  have hr3 : (ty_sI (ty_sI S2 (17, 0) 14 z) (17, 0) 15 bar).1 (17, 0) 15 = bar := by simp [ty_sI]
  have hu3 : (ty_sI (ty_sI S2 (17, 0) 14 z) (17, 0) 15 bar).1 (17, 0) 8 = S.1 (17, 0) 8 := (ty_sI_ne (by decide)).trans ((ty_sI_ne (by decide)).trans hu2)
  generalize ty_sI (ty_sI S2 (17, 0) 14 z) (17, 0) 15 bar = S3 at hR3 hF3 hco3 htk3 hb3 hr3 hu3
  clear hR2 hco2 htk2 hS hS2
  have hS : ty_st S3 := hR3.1.1
  obtain ⟨f1, f2, -⟩ := cs_cl_facts hS q2
  refine ty_aload_n (pc := 33) (i := 0) (ks := []) (by decide +kernel) rfl ?_
  refine ty_getS (b := (38, 0)) (pc := 34) (idx := 60) (ci := 5) (f := 3) (by decide +kernel) (by first | rfl | assumption) rfl (by first | exact hS.1 _ _ rfl | assumption) (by first | exact hS.2.2 _ _ _ _ rfl | assumption) ?_
  refine ty_aload_n (pc := 37) (i := 0) (ks := []) (by decide +kernel) rfl ?_
  refine ty_getS (b := (12, 0)) (pc := 38) (idx := 48) (ci := 5) (f := 0) (by decide +kernel) (by first | rfl | assumption) rfl (by first | exact hS.1 _ _ rfl | assumption) (by first | exact hS.2.2 _ _ _ _ rfl | assumption) ?_
  refine ty_aload_n (pc := 41) (i := 0) (ks := []) (by decide +kernel) rfl ?_
  first | refine ty_getS (pc := 42) (idx := 104) (ci := 5) (f := 13) (by decide +kernel) (by first | rfl | assumption) rfl (by first | exact hS.1 _ _ rfl | assumption) (by assumption) ?_ | (refine ty_getR (pc := 42) (idx := 104) (ci := 5) (f := 13) (by decide +kernel) (by first | rfl | assumption) rfl (by first | exact hS.1 _ _ rfl | assumption) (fun v hv => ?_); (subst hv))
  refine ty_getI (pc := 45) (idx := 215) (ci := 3) (f := 0) (by decide +kernel) (by first | rfl | assumption) rfl (by first | exact hS.1 _ _ rfl | assumption) (fun v hv => ?_)
  subst hv
  refine ty_aload_n (pc := 48) (i := 0) (ks := []) (by decide +kernel) rfl ?_
  refine ty_getI (pc := 49) (idx := 34) (ci := 5) (f := 14) (by decide +kernel) (by first | rfl | assumption) rfl (by first | exact hS.1 _ _ rfl | assumption) (fun v hv => ?_)
  subst hv
  -- at 52: .invokevirtual 264
  rw [hco3.1, hb3]
  refine ty_callv (pc := 52) (idx := 264) (m := 44) (n := 3) (c := 1) (vs := [_, _]) (r := [_]) (by decide +kernel) rfl rfl (Nat.le_of_ble_eq_true rfl) (by first | rfl | assumption) (by first | exact hS.1 _ _ rfl | assumption) (ct_termOf _) ?_
  rintro _ S4 ⟨y, rfl, rfl, rfl⟩
  refine ty_KI ?_
  refine ty_iload_n (pc := 55) (i := 1) (ks := []) (by decide +kernel) rfl ?_
  -- at 56: .invokevirtual 267
  obtain ⟨k1, k2⟩ := mo_head_ok ⟨w1, w2, w3⟩ hi hmd.1
  have hfa : mo_a P.1 t = mo_a P.1 (z * 624 + P.2.2.1 i) := by
    unfold mo_fits at hfit
    simp only [Bool.and_eq_true, decide_eq_true_eq] at hfit
    have := hfit.2
    unfold mo_a at this ⊢
    rw [k2]
    rw [show P.2.2.1 i % 624 = P.2.2.1 i by omega] at this
    exact this.symm
  refine ty_callv (pc := 56) (idx := 267) (m := 71) (n := 3) (c := 8) (vs := [_, _]) (r := []) (by decide +kernel) rfl rfl (Nat.le_of_ble_eq_true rfl) (by first | rfl | assumption) (by first | exact hS.1 _ _ rfl | assumption) (cp_putArguments _ hS hR3.1.2.2.1 w1 k1 (mo_ok_up ht (by omega)) hfa (by omega) hR3.1.2.2.2.2.2.1 (Nat.zero_le _)) ?_
  rintro _ S5 ⟨rfl, l, r, o, rfl, hst⟩
  refine ty_KV ?_
  refine ty_ret_v (pc := 59) (ks := []) (by decide +kernel) rfl ?_
  have oI : ∀ b j, b ≠ (38, 0) → (cp_s S4 l r o).1 b j = S4.1 b j := fun b j hb => if_neg (fun w => hb w.1)
  have oA : ∀ b, b ≠ (40, 0) → b ≠ (41, 0) → (cp_s S4 l r o).2.2.1 b = S4.2.2.1 b := fun b h1 h2 => by
    show (if b = (41, 0) then r else if b = (40, 0) then l else S4.2.2.1 b) = S4.2.2.1 b
    rw [if_neg h2, if_neg h1]
  have hF4 : cs_F S4 (cp_s S4 l r o) := (cp_R_stk hR3.1 hst).2.1.ca.F hR3.1.2.1
  refine ⟨rfl, ⟨B', F', E', n', D1, n1, c1, D2, n2, c2, u, W, cs_R_pairs hR3 (cp_R_stk hR3.1 hst).1 rfl rfl oI oA⟩, ⟨a, x, htk3, q2, cs_co_F hF4 q2 hco3, ?_, ?_⟩, ((hF1.trans hF2).trans hF3).trans hF4, (oI _ _ (by decide)).trans hu3⟩
  · rw [oI _ _ (by decide)]
    exact hb3
  · rw [oI _ _ (by decide)]
    exact hr3
end CSK
