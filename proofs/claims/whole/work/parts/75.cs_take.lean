/-! A clause is taken. -/
/-- which text is in use -/
def cs_tk (S : ty_S) (P : mo_P) (tk : Option (Int × Int × Int)) : Prop := match tk with
  | none => S.2.1 (17, 0) 13 = none
  | some (i, base, bar) => ∃ a x, S.2.1 (17, 0) 13 = some a ∧ cs_cl a x ∧ cs_co S a x (P.2.2.1 i) (P.2.2.2.1 i) (P.2.2.2.2 i) ∧ S.1 (17, 0) 14 = base ∧ S.1 (17, 0) 15 = bar
/-- some ghosts fit -/
def cs_X (S : ty_S) (P : mo_P) (K : Nat × Nat) (th : Nat) (M : mo_M) (ps : List (Int × Int)) (wk : List Int) (fl : Bool) : Prop := ∃ B F E n D1 n1 c1 D2 n2 c2 u W, cs_R S P K th M ps wk fl B F E n D1 n1 c1 D2 n2 c2 u W
section CSK
variable {L : Nat} {xs : Nat → Int32} {S : ty_S}
theorem mo_head_ok {P : mo_P} (hW : mo_PW P) {i made : Int} (hi : 0 ≤ i ∧ i < P.2.1) (hm : 0 ≤ made) : mo_ok P.1 (made + P.2.2.2.1 i) (made * 624 + P.2.2.1 i) ∧ (made * 624 + P.2.2.1 i) % 624 = P.2.2.1 i := by
  obtain ⟨w1, w2, w3⟩ := hW
  obtain ⟨⟨g1, g2, g3⟩, ⟨g4, g5, g6⟩, -⟩ := w3 i hi.1 hi.2
  have e1 : (made * 624 + P.2.2.1 i) % 624 = P.2.2.1 i := by omega
  have e2 : (made * 624 + P.2.2.1 i) / 624 = made := by omega
  refine ⟨⟨by omega, by rw [e1]; exact g1, ?_⟩, e1⟩
  rw [e1, e2, ← g4]
  exact Int.le_refl _
theorem cs_takeClause (d : Nat) {P : mo_P} (hW : mo_PW P) {K : Nat × Nat} {th : Nat} {st came : Int} {sl al ar : Int → Int} {made : Int} {bd : Int → Int} {ch : Int → List Int} {ns : Int} {dn : List Int} {an : Int} {aw : Int → Bool} {todo : List mo_Go} {cs : List mo_Ch} {ans : Int} {wk : List Int} {fl : Bool}
    (h : cs_X S P K th (st, came, sl, al, ar, (made, bd, ch, ns, dn, an, aw), todo, cs, ans) [] wk fl) {t i bar : Int} (hi : 0 ≤ i ∧ i < P.2.1) (ht : mo_ok P.1 made t) (hfit : mo_fits P t i = true) (hmd : 0 ≤ made ∧ made ≤ 24000) :
    ty_C L xs (d + 3) 70 [.inr (.inr (some (17, 0))), .inl (ty_J t), .inl (ty_J i), .inl (ty_J bar)] S (ty_oV fun S' => cs_X S' P K th (mo_ta P (st, came, sl, al, ar, (made, bd, ch, ns, dn, an, aw), todo, cs, ans) t i bar).2.1 (mo_ta P (st, came, sl, al, ar, (made, bd, ch, ns, dn, an, aw), todo, cs, ans) t i bar).2.2.1 wk fl ∧ cs_tk S' P (some (i, made, bar))) := by
  obtain ⟨B, F, E, n, D1, n1, c1, D2, n2, c2, u, W, hR⟩ := h
  have hR0 := hR
  obtain ⟨h1, h2, h3, h4, h5, h6, h7, h8, h9, h10, h11⟩ := hR
  have hS := h1.1
  have hV := h1.2.1
  have hmade := h1.2.2.2.1
  obtain ⟨p1, p2, p3, p4⟩ := h3
  obtain ⟨a, x, q1, q2, q3⟩ := p4 i hi.1 hi.2
  obtain ⟨f1, f2, -⟩ := cs_cl_facts hS q2
  obtain ⟨w1, w2, w3⟩ := hW
  obtain ⟨⟨g1, g2, g3⟩, ⟨g4, g5, g6⟩, -⟩ := w3 i hi.1 hi.2
  refine ty_enter (ml := 4) (ls := [_, _, _, _]) rfl rfl (Nat.le_of_ble_eq_true rfl) ?_
  refine ty_aload_n (pc := 0) (i := 0) (ks := []) (by decide +kernel) rfl ?_
  refine ty_aload_n (pc := 1) (i := 0) (ks := []) (by decide +kernel) rfl ?_
  refine ty_getS (pc := 2) (idx := 73) (ci := 5) (f := 5) (by decide +kernel) (by rfl) rfl (hS.1 _ _ rfl) p2 ?_
  refine ty_iload_n (pc := 5) (i := 2) (ks := []) (by decide +kernel) rfl ?_
  refine ty_aaload (pc := 6) (ks := []) (by decide +kernel) (by rfl) (by rfl) (hS.1 _ _ rfl) (hS.2.1 _ _ _ rfl) (by omega) (fun v hv => ?_)
  rw [q1] at hv
  subst hv
  refine ty_putR (pc := 7) (idx := 104) (ci := 5) (f := 13) (by decide +kernel) (by rfl) rfl rfl (hS.1 _ _ rfl) ?_
  have hS1 : ty_st (ty_sR S (17, 0) 13 (some a)) := ty_st.sR (by decide +kernel) hS
  have hR1 : cs_R (ty_sR S (17, 0) 13 (some a)) P K th (st, came, sl, al, ar, (made, bd, ch, ns, dn, an, aw), todo, cs, ans) [] wk fl B F E n D1 n1 c1 D2 n2 c2 u W := cs_R_own hR0 hS1 rfl (fun _ _ _ => rfl) (fun b j hb => if_neg hb)
  have htk1 : (ty_sR S (17, 0) 13 (some a)).2.1 (17, 0) 13 = some a := if_pos ⟨rfl, rfl⟩
  generalize ty_sR S (17, 0) 13 (some a) = S1 at hS1 hR1 htk1
  clear hR0 h1 h2 h4 h5 h6 h7 h8 h9 h10 h11 hV hmade p1 p2 p3 p4 q1 q3 f1 f2 hS
  have hR1' := hR1
  obtain ⟨h1, h2, h3, h4, h5, h6, h7, h8, h9, h10, h11⟩ := hR1
  have hS := hS1
  have hV := h1.2.1
  have hmade := h1.2.2.2.1
  obtain ⟨f1, f2, -⟩ := cs_cl_facts hS q2
  obtain ⟨p1, p2, p3, p4⟩ := h3
  sorry
end CSK
