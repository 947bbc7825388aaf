/-! A call is begun. -/
theorem cp_R_f {S S' : ty_S} {B F E : ai_A} {n : Nat} {G : mo_G} {made ns : Int} {sl : Int → Int} {st k : Int} {u : mo_U} (h : cp_R S B F E n G made ns sl st k u) (hS' : ty_st S') (hf : cs_f S S') : cp_R S' B F E n G made ns sl st k u := by
  obtain ⟨r1, r2, r3, r4, r5, r6, r7, r8, r9, r10, r11, r12⟩ := h
  have oI : ∀ s i j : Nat, s ≠ 17 → s ≠ 35 → s ≠ 36 → s ≠ 49 → s ≠ 52 → S'.1 (s, i) j = S.1 (s, i) j ∧ S'.2.1 (s, i) j = S.2.1 (s, i) j := fun s i j a1 a2 a3 a4 a5 => hf.1 (s, i) a1 a2 a3 a4 a5 j
  have oA : ∀ s i : Nat, s ≠ 50 → s ≠ 51 → S'.2.2.1 (s, i) = S.2.2.1 (s, i) := fun s i a1 a2 => (hf.2.1 (s, i) a1 a2).1
  have nB : ∀ X : ai_A, (X.1 = 23 ∨ X.1 = 48) ∨ (X.1 = 24 ∨ X.1 = 48) ∨ (X.1 = 25 ∨ X.1 = 48) → S'.2.2.1 X = S.2.2.1 X ∧ S'.2.2.2.2.2.1 X = S.2.2.2.2.2.1 X ∧ S'.2.2.2.2.2.2.1 X.1 = S.2.2.2.2.2.2.1 X.1 := fun X hX => by
    obtain ⟨p1, -, p2⟩ := hf.2.1 X (by omega) (by omega)
    exact ⟨p1, p2, hf.2.2.2 X.1 (by omega) (by omega) (by omega) (by omega)⟩
  obtain ⟨v1, v2, v3, v4, v5, v6, v7⟩ := r2
  obtain ⟨b1, b2, b3⟩ := nB B (.inl v6.1)
  obtain ⟨f1, f2, f3⟩ := nB F (.inr (.inl v6.2.1))
  obtain ⟨e1, e2, e3⟩ := nB E (.inr (.inr v6.2.2))
  have vI := fun j => (oI 13 0 j (by decide) (by decide) (by decide) (by decide) (by decide))
  have sI := fun j => (oI 37 0 j (by decide) (by decide) (by decide) (by decide) (by decide))
  have pI := fun j => (oI 38 0 j (by decide) (by decide) (by decide) (by decide) (by decide))
  refine ⟨hS', ⟨?_, v2, ?_, ?_, v5, v6, v7⟩, ?_, ?_, ?_, ?_, ?_, ?_, ?_, ?_, ?_, r12⟩
  · rw [(vI _).2, (vI _).2, (vI _).2]; exact v1
  · rw [b3, f3, e3]; exact v3
  · rw [b2, f2, e2]; exact v4
  · unfold cv_g
    rw [oA 19 0 (by decide) (by decide), oA 20 0 (by decide) (by decide), oA 21 0 (by decide) (by decide), oA 22 0 (by decide) (by decide)]
    exact r3
  · rw [(vI _).1]; exact r4
  · rw [(sI _).1]; exact r5
  · rw [oA 40 0 (by decide) (by decide), oA 41 0 (by decide) (by decide), (pI _).1]; exact r6
  · rw [oA 42 0 (by decide) (by decide), (pI _).1]; exact r7
  · rw [b1, f1, e1, oA 28 0 (by decide) (by decide)]; exact r8
  · rw [oA 27 0 (by decide) (by decide)]; exact r9
  · rw [oA 26 0 (by decide) (by decide), (vI _).1]; exact r10
  · rw [oA 29 0 (by decide) (by decide), oA 30 0 (by decide) (by decide), (vI _).1]; exact r11
theorem cs_arr_f {S S' : ty_S} {B F E : ai_A} {n : Nat} (hV : cv_sh S B F E n) (hf : cs_f S S') : cs_arr S' B F E = cs_arr S B F E := by
  have oI : ∀ s i j : Nat, s ≠ 17 → s ≠ 35 → s ≠ 36 → s ≠ 49 → s ≠ 52 → S'.1 (s, i) j = S.1 (s, i) j := fun s i j a1 a2 a3 a4 a5 => (hf.1 (s, i) a1 a2 a3 a4 a5 j).1
  have oA : ∀ s i : Nat, s ≠ 50 → s ≠ 51 → S'.2.2.1 (s, i) = S.2.2.1 (s, i) := fun s i a1 a2 => (hf.2.1 (s, i) a1 a2).1
  have v6 := hV.2.2.2.2.2.1
  unfold cs_arr
  rw [(hf.2.1 B (by omega) (by omega)).1, (hf.2.1 F (by omega) (by omega)).1, (hf.2.1 E (by omega) (by omega)).1, oA 26 0 (by decide) (by decide), oA 28 0 (by decide) (by decide), oA 29 0 (by decide) (by decide), oA 30 0 (by decide) (by decide), oA 45 0 (by decide) (by decide), oA 46 0 (by decide) (by decide), oI 13 0 _ (by decide) (by decide) (by decide) (by decide) (by decide), oI 13 0 _ (by decide) (by decide) (by decide) (by decide) (by decide), oI 39 0 _ (by decide) (by decide) (by decide) (by decide) (by decide)]
/-- goals, choices and their lists change -/
theorem cs_R_f {S S' : ty_S} {P : mo_P} {K : Nat × Nat} {th : Nat} {st came : Int} {sl al ar : Int → Int} {made : Int} {bd : Int → Int} {ch : Int → List Int} {ns : Int} {dn : List Int} {an : Int} {aw : Int → Bool} {todo : List mo_Go} {cs : List mo_Ch} {ans : Int} {ps : List (Int × Int)} {wk : List Int} {fl : Bool} {B F E : ai_A} {n : Nat} {D1 : ai_A} {n1 c1 : Nat} {D2 : ai_A} {n2 c2 u W : Nat}
    (h : cs_R S P K th (st, came, sl, al, ar, (made, bd, ch, ns, dn, an, aw), todo, cs, ans) ps wk fl B F E n D1 n1 c1 D2 n2 c2 u W) (hS : ty_st S') (hf : cs_f S S') {D1' : ai_A} {n1' c1' : Nat} {D2' : ai_A} {n2' c2' : Nat} (hL : cs_L S' D1' n1' c1' D2' n2' c2') (k1 : S'.2.1 (17, 0) 5 = S.2.1 (17, 0) 5) (k2 : S'.1 (17, 0) 6 = S.1 (17, 0) 6) {todo' : List mo_Go} {cs' : List mo_Ch} {u' W' : Nat} (k3 : S'.1 (17, 0) 12 = S.1 (17, 0) 12)
    (n5 : S'.1 (17, 0) 8 = u' ∧ u' ≤ n1' ∧ (u' : Int) ≤ 24 + 524 * st ∧ n1' ≤ 262024 ∧ W' ≤ u' ∧ (cs' ≠ [] → (W' : Int) + 524 ≤ 24 + 524 * st)) (n6 : cs_td S' u' (S'.2.1 (17, 0) 9) todo') (n7 : S'.1 (17, 0) 11 = cs'.length ∧ cs'.length ≤ n2' ∧ (cs'.length : Int) ≤ st ∧ n2' ≤ 500) (n8 : cs_ck S' (cs_arr S B F E) (S.1 (13, 0) 7, S.1 (13, 0) 13, S.1 (39, 0) 7, W', made, ns, an) cs') (n9 : cs_k S' K n1' c1' n2' c2' n th) :
    cs_R S' P K th (st, came, sl, al, ar, (made, bd, ch, ns, dn, an, aw), todo', cs', ans) ps wk fl B F E n D1' n1' c1' D2' n2' c2' u' W' := by
  obtain ⟨h1, h2, h3, h4, h5, h6, h7, h8, h9, h10, h11⟩ := h
  have oI : ∀ s i j : Nat, s ≠ 17 → s ≠ 35 → s ≠ 36 → s ≠ 49 → s ≠ 52 → S'.1 (s, i) j = S.1 (s, i) j := fun s i j a1 a2 a3 a4 a5 => (hf.1 (s, i) a1 a2 a3 a4 a5 j).1
  have oA : ∀ s i : Nat, s ≠ 50 → s ≠ 51 → S'.2.2.1 (s, i) = S.2.2.1 (s, i) := fun s i a1 a2 => (hf.2.1 (s, i) a1 a2).1
  have vI := fun j => oI 13 0 j (by decide) (by decide) (by decide) (by decide) (by decide)
  have aI := fun j => oI 39 0 j (by decide) (by decide) (by decide) (by decide) (by decide)
  refine ⟨cp_R_f h1 hS hf, ?_, cs_P_keep h3 hf k1 k2, hL, n5, n6, n7, ?_, ⟨?_, ?_, ?_⟩, n9, h11⟩
  · unfold ca_R
    rw [aI, aI, oA 43 0 (by decide) (by decide), oA 44 0 (by decide) (by decide), oA 45 0 (by decide) (by decide), oA 46 0 (by decide) (by decide)]
    exact h2
  · rw [cs_arr_f h1.2.1 hf, vI, vI, aI]
    exact n8
  · rw [vI]; exact h9.1
  · rw [vI]; exact h9.2.1
  · rw [k3]; exact h9.2.2
/-- a choice is left -/
theorem cs_R_leave {S S' : ty_S} {P : mo_P} {K : Nat × Nat} {th : Nat} {st came : Int} {sl al ar : Int → Int} {made : Int} {bd : Int → Int} {ch : Int → List Int} {ns : Int} {dn : List Int} {an : Int} {aw : Int → Bool} {todo : List mo_Go} {cs : List mo_Ch} {ans : Int} {ps : List (Int × Int)} {wk : List Int} {fl : Bool} {B F E : ai_A} {n : Nat} {D1 : ai_A} {n1 c1 : Nat} {D2 : ai_A} {n2 c2 u W : Nat} {t i : Int} {D2' : ai_A} {n2' c2' : Nat}
    (h : cs_R S P K th (st, came, sl, al, ar, (made, bd, ch, ns, dn, an, aw), todo, cs, ans) ps wk fl B F E n D1 n1 c1 D2 n2 c2 u W) (hc : cs_c S S' cs.length t i D1 n1 c1 D2 n2 c2 D2' n2' c2') (hcs : (cs.length : Int) + 1 ≤ st) (hu : (u : Int) + 524 ≤ 24 + 524 * st) (hcw : mo_cw made ns bd ch dn) :
    cs_R S' P K th (st, came, sl, al, ar, (made, bd, ch, ns, dn, an, aw), todo, (t, i, todo, (made, bd, ch, ns, dn, an, aw)) :: cs, ans) ps wk fl B F E n D1 n1 c1 D2' n2' c2' u u := by
  have h0 := h
  obtain ⟨h1, h2, h3, h4, h5, h6, h7, h8, h9, h10, h11⟩ := h
  obtain ⟨d1, d2, d3, d4, d5, d6, d7, d8, d9, d10⟩ := hc
  have st5 := h1.2.2.2.2.1
  have sI : ∀ j, j ≠ 11 → S'.1 (17, 0) j = S.1 (17, 0) j := fun j hj => by rw [d5, if_neg hj]
  refine cs_R_f h0 d1 d4 d2 (d6 _) (sI _ (by decide)) (sI _ (by decide)) ⟨by rw [sI _ (by decide)]; exact h5.1, h5.2.1, h5.2.2.1, h5.2.2.2.1, Nat.le_refl _, fun _ => hu⟩ ?_ ⟨?_, ?_, ?_, ?_⟩ ?_ (d10 K n th h10)
  · rw [d6]
    exact cs_td_eq (fun i _ j => d9 i j) h6
  · rw [d5, if_pos rfl, List.length_cons]
    omega
  · rw [List.length_cons]; omega
  · rw [List.length_cons]; omega
  · have := h7.2.2.2; omega
  · have b10 := h1.2.2.2.2.2.2.2.2.2.1.1
    have b11 := h1.2.2.2.2.2.2.2.2.2.2.1.1
    have hsc := h2.2.2.1
    refine ⟨S.1 (13, 0) 7, S.1 (13, 0) 13, S.1 (39, 0) 7, u, ⟨b10.1, Int.le_refl _, b11.1, Int.le_refl _, hsc.1, Int.le_refl _, Nat.le_refl _⟩, ⟨h1.2.2.2.1.2.1, Int.le_refl _, h1.2.2.2.2.2.2.2.2.2.2.2.1, Int.le_refl _, h2.1.2.1, Int.le_refl _⟩, ⟨d7.1, d7.2.1, ?_, ?_, ?_, ?_, ?_, ?_, ?_⟩, ?_, ?_, ?_⟩
    · rw [d7.2.2.2.1]; exact h5.1
    · rw [d7.2.2.2.2.1]; exact h1.2.2.2.1.1
    · rw [d7.2.2.2.2.2.1]
    · rw [d7.2.2.2.2.2.2.1]; exact h9.2.1
    · rw [d7.2.2.2.2.2.2.2.1]
    · rw [d7.2.2.2.2.2.2.2.2.1]; exact h2.1.1
    · rw [d7.2.2.2.2.2.2.2.2.2]
    · rw [d7.2.2.1]
      exact cs_td_eq (fun i _ j => d9 i j) h6
    · unfold cs_sn cs_arr
      simp only
      rw [Int.sub_self, Int.sub_self, Int.sub_self]
      refine ⟨h1.2.2.2.2.2.2.2.1, fun j j0 j1 => (h2.2.1 j j0 j1).2.2, fun v v0 v1 vf => (hcw.1 v v0 v1 vf).1⟩
    · refine cs_ck_keep cs _ _ h8 ⟨Int.le_refl _, Int.le_refl _, Int.le_refl _, h5.2.2.2.2.1, Int.le_refl _, Int.le_refl _, Int.le_refl _⟩ (fun i hi j => d8 i hi j) (fun i _ j => d9 i j) (fun _ _ _ _ _ _ _ _ _ _ _ _ _ z => z)
/-- goals in front -/
theorem cs_R_front {S S' : ty_S} {P : mo_P} {K : Nat × Nat} {th : Nat} {st came : Int} {sl al ar : Int → Int} {made : Int} {bd : Int → Int} {ch : Int → List Int} {ns : Int} {dn : List Int} {an : Int} {aw : Int → Bool} {todo : List mo_Go} {cs : List mo_Ch} {ans : Int} {ps : List (Int × Int)} {wk : List Int} {fl : Bool} {B F E : ai_A} {n : Nat} {D1 : ai_A} {n1 c1 : Nat} {D2 : ai_A} {n2 c2 u W : Nat} {D1' : ai_A} {n1' c1' u' : Nat} {gs' : List mo_Go}
    (h : cs_R S P K th (st, came, sl, al, ar, (made, bd, ch, ns, dn, an, aw), todo, cs, ans) ps wk fl B F E n D1 n1 c1 D2 n2 c2 u W) (hq : cs_Q S S' u D1 n1 c1 D2 n2 c2 u' gs' D1' n1' c1') (hu : (u' : Int) ≤ 24 + 524 * st) :
    cs_R S' P K th (st, came, sl, al, ar, (made, bd, ch, ns, dn, an, aw), gs', cs, ans) ps wk fl B F E n D1' n1' c1' D2 n2 c2 u' W := by
  have h0 := h
  obtain ⟨h1, h2, h3, h4, h5, h6, h7, h8, h9, h10, h11⟩ := h
  obtain ⟨q1, q2, q3, q4, q5, q6, q7, q8, q9⟩ := hq
  have st5 := h1.2.2.2.2.1
  refine cs_R_f h0 q1 q3 q2 (q4.2 _ (by decide)) (q4.1 _ (by decide)) (q4.1 _ (by decide)) ⟨q5.1, q6.2.1, hu, ?_, by omega, h5.2.2.2.2.2⟩ q5.2 ⟨by rw [q4.1 _ (by decide)]; exact h7.1, h7.2⟩ ?_ (q9 K n th h10)
  · have := h5.2.2.2.1
    omega
  · exact cs_ck_keep cs _ _ h8 ⟨Int.le_refl _, Int.le_refl _, Int.le_refl _, Nat.le_refl _, Int.le_refl _, Int.le_refl _, Int.le_refl _⟩ (fun i _ j => q8 i j) (fun i hi j => q7 i (by simp only at hi; omega) j) (fun _ _ _ _ _ _ _ _ _ _ _ _ _ z => z)
section CSL
variable {L : Nat} {xs : Nat → Int32} {S : ty_S}
/-- what the first half of a round comes to -/
def cs_1 (S : ty_S) (P : mo_P) (K : Nat × Nat) (th : Nat) (r : mo_R1) (S' : ty_S) : Prop := cs_X S' P K th r.2.1 r.2.2.1 [] false ∧ cs_tk S' P r.2.2.2 ∧ cs_F S S' ∧ S'.1 (17, 0) 8 + (if r.2.2.1 = [] ∧ r.2.2.2 = none then 0 else 524) ≤ 24 + 524 * r.2.1.1
theorem cs_beginCall (d : Nat) {P : mo_P} (hW : mo_PW P) {K : Nat × Nat} {th : Nat} {st came : Int} {sl al ar : Int → Int} {made : Int} {bd : Int → Int} {ch : Int → List Int} {ns : Int} {dn : List Int} {an : Int} {aw : Int → Bool} {todo : List mo_Go} {cs : List mo_Ch} {ans : Int} {t : Int}
    (h : cs_X S P K th (st, came, sl, al, ar, (made, bd, ch, ns, dn, an, aw), todo, cs, ans) [] [] false) (htk : S.2.1 (17, 0) 13 = none) (ht : mo_ok P.1 made t) (hmd : 0 ≤ made ∧ made ≤ 24000) (hcs : (cs.length : Int) + 1 ≤ st) (hu : S.1 (17, 0) 8 + 524 ≤ 24 + 524 * st) (hcw : mo_cw made ns bd ch dn) :
    ty_C L xs (d + 8) 64 [.inr (.inr (some (17, 0))), .inl (ty_J t)] S (ty_oI fun z S' => (z = 0 ∧ mo_next P t 0 = -1 ∧ S' = S) ∨ (z = 1 ∧ mo_next P t 0 ≠ -1 ∧ cs_1 S P K th (mo_ta P (st, came, sl, al, ar, (made, bd, ch, ns, dn, an, aw), todo, (if mo_next P t (mo_next P t 0 + 1) = -1 then cs else (t, mo_next P t (mo_next P t 0 + 1), todo, (made, bd, ch, ns, dn, an, aw)) :: cs), ans) t (mo_next P t 0) cs.length) S')) := by
  have hX := h
  obtain ⟨B, F, E, n, D1, n1, c1, D2, n2, c2, u, W, hR⟩ := h
  have hR0 := hR
  obtain ⟨h1, h2, h3, h4, h5, h6, h7, h8, h9, h10, h11⟩ := hR
  have hS := h1.1
  have hw2 := hW.2.1
  refine ty_enter (ml := 5) (ls := [_, _, _, _, _]) rfl rfl (Nat.le_of_ble_eq_true rfl) ?_
  refine ty_aload_n (pc := 0) (i := 0) (ks := []) (by decide +kernel) rfl ?_
  refine ty_iload_n (pc := 1) (i := 1) (ks := []) (by decide +kernel) rfl ?_
  refine ty_iconst (pc := 2) (n := 0) (ks := []) (by decide +kernel) ?_
  -- at 3: .invokevirtual 205
  refine ty_callv (pc := 3) (idx := 205) (m := 65) (n := 3) (c := 5) (vs := [_, _]) (r := []) (by decide +kernel) rfl rfl (Nat.le_of_ble_eq_true rfl) (by first | rfl | assumption) (by first | exact hS.1 _ _ rfl | assumption) (cs_findClause _ hS h3 hW ht (by omega) (show (0 : Int) ≤ 0 ∧ (0 : Int) ≤ 100 by omega)) ?_
  rintro _ S1 ⟨z, rfl, rfl, rfl⟩
  refine ty_KI ?_
  have hn0 := mo_next_spec (P := P) (t := t) (Int.le_refl 0)
  generalize hf : mo_next P t 0 = f at hn0
  have hfr : -1 ≤ f ∧ f ≤ 100 := by omega
  refine ty_istore_n (pc := 6) (i := 2) (ks := []) (ls' := [_, _, _, _, _]) (by decide +kernel) rfl ?_
  refine ty_iload_n (pc := 7) (i := 2) (ks := []) (by decide +kernel) rfl ?_
  refine ty_iconst (pc := 8) (n := (-1)) (ks := []) (by decide +kernel) ?_
  -- at 9: .if_icmp .ne 5
  refine ty_icmp_ne (pc := 9) (off := 5) (t := 14) (ks := []) (by decide +kernel) (by omega) (by omega) (fun hc => ?_) (fun hc => ?_)
  · obtain ⟨y1, y2, y3⟩ := hn0.resolve_left hc
    refine ty_aload_n (pc := 14) (i := 0) (ks := []) (by decide +kernel) rfl ?_
    refine ty_getI (pc := 15) (idx := 28) (ci := 5) (f := 11) (by decide +kernel) (by first | rfl | assumption) rfl (by first | exact hS.1 _ _ rfl | assumption) (fun v hv => ?_)
    subst hv
    refine ty_istore_n (pc := 18) (i := 3) (ks := []) (ls' := [_, _, _, _, _]) (by decide +kernel) rfl ?_
    refine ty_aload_n (pc := 19) (i := 0) (ks := []) (by decide +kernel) rfl ?_
    refine ty_iload_n (pc := 20) (i := 1) (ks := []) (by decide +kernel) rfl ?_
    refine ty_iload_n (pc := 21) (i := 2) (ks := []) (by decide +kernel) rfl ?_
    refine ty_iconst (pc := 22) (n := 1) (ks := []) (by decide +kernel) ?_
    refine ty_iadd (pc := 23) (ks := []) (by decide +kernel) ?_
    -- at 24: .invokevirtual 205
    rw [h7.1]
    refine ty_callv (pc := 24) (idx := 205) (m := 65) (n := 3) (c := 5) (vs := [_, _]) (r := []) (by decide +kernel) rfl rfl (Nat.le_of_ble_eq_true rfl) (by first | rfl | assumption) (by first | exact hS.1 _ _ rfl | assumption) (cs_findClause _ hS h3 hW ht (by omega) (show (0 : Int) ≤ f + 1 ∧ f + 1 ≤ 100 by omega)) ?_
    rintro _ S2 ⟨z, rfl, rfl, rfl⟩
    refine ty_KI ?_
    have hn1 := mo_next_spec (P := P) (t := t) (show 0 ≤ f + 1 by omega)
    generalize hg : mo_next P t (f + 1) = g at hn1
    have hgr : -1 ≤ g ∧ g ≤ 100 := by omega
    have hcf := hc
    refine ty_istore (pc := 27) (i := 4) (ks := []) (ls' := [_, _, _, _, _]) (by decide +kernel) rfl ?_
    refine ty_iload (pc := 29) (i := 4) (ks := []) (by decide +kernel) rfl ?_
    refine ty_iconst (pc := 31) (n := (-1)) (ks := []) (by decide +kernel) ?_
    -- at 32: .if_icmp .eq 10
    refine ty_icmp_eq (pc := 32) (off := 10) (t := 42) (ks := []) (by decide +kernel) (by omega) (by omega) (fun hc => ?_) (fun hc => ?_)
    · refine ty_aload_n (pc := 42) (i := 0) (ks := []) (by decide +kernel) rfl ?_
      refine ty_iload_n (pc := 43) (i := 1) (ks := []) (by decide +kernel) rfl ?_
      refine ty_iload_n (pc := 44) (i := 2) (ks := []) (by decide +kernel) rfl ?_
      refine ty_iload_n (pc := 45) (i := 3) (ks := []) (by decide +kernel) rfl ?_
      -- at 46: .invokevirtual 211
      refine ty_callv (pc := 46) (idx := 211) (m := 70) (n := 4) (c := 5) (vs := [_, _, _]) (r := []) (by decide +kernel) rfl rfl (Nat.le_of_ble_eq_true rfl) (by first | rfl | assumption) (by first | exact hS.1 _ _ rfl | assumption) ((cs_takeClause (d + 4) hW hX ⟨y1, y2⟩ ht y3 hmd (bar := (cs.length : Int))).deeper (by omega)) ?_
      rintro _ S3 ⟨rfl, x1, x2, x3, x4⟩
      refine ty_KV ?_
      refine ty_iconst (pc := 49) (n := 1) (ks := []) (by decide +kernel) ?_
      -- at 50: .ireturn
      refine ty_ret_i (pc := 50) (ks := []) (ty := .boolean) (by decide +kernel) rfl (ty_fit_z (by omega)) ?_
      refine ⟨1, rfl, .inr ⟨rfl, hcf, ?_⟩⟩
      rw [if_pos hc]
      refine ⟨x1, x2, x3, ?_⟩
      rw [if_neg (fun w => (nomatch w.2)), x4]
      exact hu
    · refine ty_aload_n (pc := 35) (i := 0) (ks := []) (by decide +kernel) rfl ?_
      refine ty_iload_n (pc := 36) (i := 1) (ks := []) (by decide +kernel) rfl ?_
      refine ty_iload (pc := 37) (i := 4) (ks := []) (by decide +kernel) rfl ?_
      -- at 39: .invokevirtual 208
      refine ty_callv (pc := 39) (idx := 208) (m := 68) (n := 3) (c := 5) (vs := [_, _]) (r := []) (by decide +kernel) rfl rfl (Nat.le_of_ble_eq_true rfl) (by first | rfl | assumption) (by first | exact hS.1 _ _ rfl | assumption) (cs_leaveChoice d hS h4 h7.1 h7.2.1 (by omega) (call := t) (clause := g)) ?_
      rintro _ S3 ⟨rfl, D2', n2', c2', hcc⟩
      refine ty_KV ?_
      have hRl := cs_R_leave hR0 hcc hcs (by have := h5.1; omega) hcw
      have hXl : cs_X S3 P K th (st, came, sl, al, ar, (made, bd, ch, ns, dn, an, aw), todo, (t, g, todo, (made, bd, ch, ns, dn, an, aw)) :: cs, ans) [] [] false := ⟨_, _, _, _, _, _, _, _, _, _, _, _, hRl⟩
      have hS : ty_st S3 := hRl.1.1
      refine ty_aload_n (pc := 42) (i := 0) (ks := []) (by decide +kernel) rfl ?_
      refine ty_iload_n (pc := 43) (i := 1) (ks := []) (by decide +kernel) rfl ?_
      refine ty_iload_n (pc := 44) (i := 2) (ks := []) (by decide +kernel) rfl ?_
      refine ty_iload_n (pc := 45) (i := 3) (ks := []) (by decide +kernel) rfl ?_
      -- at 46: .invokevirtual 211
      refine ty_callv (pc := 46) (idx := 211) (m := 70) (n := 4) (c := 5) (vs := [_, _, _]) (r := []) (by decide +kernel) rfl rfl (Nat.le_of_ble_eq_true rfl) (by first | rfl | assumption) (by first | exact hS.1 _ _ rfl | assumption) ((cs_takeClause (d + 4) hW hXl ⟨y1, y2⟩ ht y3 hmd (bar := (cs.length : Int))).deeper (by omega)) ?_
      rintro _ S4 ⟨rfl, x1, x2, x3, x4⟩
      refine ty_KV ?_
      refine ty_iconst (pc := 49) (n := 1) (ks := []) (by decide +kernel) ?_
      -- at 50: .ireturn
      refine ty_ret_i (pc := 50) (ks := []) (ty := .boolean) (by decide +kernel) rfl (ty_fit_z (by omega)) ?_
      refine ⟨1, rfl, .inr ⟨rfl, hcf, ?_⟩⟩
      rw [if_neg hc]
      refine ⟨x1, x2, hcc.2.2.2.1.F.trans x3, ?_⟩
      rw [if_neg (fun w => (nomatch w.2)), x4, hRl.2.2.2.2.1.1, ← h5.1]
      exact hu
  · refine ty_iconst (pc := 12) (n := 0) (ks := []) (by decide +kernel) ?_
    -- at 13: .ireturn
    refine ty_ret_i (pc := 13) (ks := []) (ty := .boolean) (by decide +kernel) rfl (ty_fit_z (by omega)) ?_
    exact ⟨0, rfl, .inl ⟨rfl, hc, rfl⟩⟩
end CSL
