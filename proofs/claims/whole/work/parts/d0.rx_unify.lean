/-! The reference's unify is the second half of a round. -/
/-- what is left of a state when the search goes back from it -/
def rx_B (I : Nat → Int) (A : Nat → Int → Int) (G : mo_G) (ta rl : Int → Int) (M : mo_M) : Prop := (I 11 = 0 ∧ I 40 = 0) ∧ (I 30 = M.1 ∧ 0 ≤ M.1 ∧ M.1 ≤ 500) ∧ ((0 ≤ I 32 ∧ I 32 ≤ 4 * M.1) ∧ rt_ok (A 71) (I 32)) ∧ I 27 = M.2.1 ∧ I 33 = M.2.2.2.2.2.2.2.1.length ∧ I 31 = M.2.2.2.2.2.2.2.2 ∧ ∃ nc ng na, rx_C G M.2.2.1 M.2.2.2.1 M.2.2.2.2.1 rl ta A (I 32) M.1 nc ng na (I 32) M.2.2.2.2.2.2.2.1
theorem rx_S.B {I : Nat → Int} {A : Nat → Int → Int} {G : mo_G} {ta rl : Int → Int} {nc ng na : Int} {M : mo_M} (h : rx_S I A G ta rl nc ng na M) : rx_B I A G ta rl M := by
  obtain ⟨x1, x2, x3, x4, x5, x6, x7, x8, x9, x10, x11, x12⟩ := h
  exact ⟨x1, x2, x3, x4.2, x9, x10, nc, ng, na, x12⟩
/-- what holds of the reference also when a call has thrown -/
def rx_E (I : Nat → Int) : Prop := (I 40 = 0 ∧ 0 ≤ I 33 ∧ I 33 ≤ 500) ∧ 0 ≤ I 35 ∧ I 35 ≤ 500
theorem rx_S.E {I : Nat → Int} {A : Nat → Int → Int} {P : mo_P} {ta rl : Int → Int} {nc ng na : Int} {M : mo_M} (h : rx_S I A P.1 ta rl nc ng na M) (hMI : mo_MI P M) : rx_E I := by
  obtain ⟨b1, b2, b3, b4⟩ := hMI
  obtain ⟨x1, x2, x3, x4, x5, x6, x7, x8, x9, x10, ⟨v1, v2, v3, v4, v5⟩, x12⟩ := h
  have := v5.1
  refine ⟨⟨x1.2, ?_, ?_⟩, ?_, ?_⟩
  · rw [x9]; omega
  · rw [x9]; omega
  · rw [x8]; omega
  · rw [x8]; omega
/-- what a round of the reference comes to -/
def rx_p (S : ty_S) (I : Nat → Int) (A : Nat → Int → Int) (P : mo_P) (r : Int × mo_M) : ai_O → ty_S → Prop := ty_oI fun z S' => z = (if r.1 = 1 then 1 else 0) ∧ ∃ I' A', S' = rm_s S I' A' ∧ (rx_K I A I' A' ∧ rx_E I') ∧ ((r.1 = 2 ∧ I' 11 = 3) ∨ (r.1 = 3 ∧ I' 11 = 4) ∨ (r.1 = 0 ∧ ∃ ta' rl', rx_B I' A' P.1 ta' rl' r.2) ∨ (r.1 = 1 ∧ ∃ ta' rl' nc' ng' na', rx_S I' A' P.1 ta' rl' nc' ng' na' r.2 ∧ rm_td P.1 ta' nc' A' ng' (I' 29) r.2.2.2.2.2.2.2.1))
theorem rx_p_K {S : ty_S} {I I1 : Nat → Int} {A A1 : Nat → Int → Int} {P : mo_P} {r : Int × mo_M} (h : rx_K I A I1 A1) {o : ai_O} {S' : ty_S} (g : rx_p S I1 A1 P r o S') : rx_p S I A P r o S' := by
  obtain ⟨z, g1, g2, I', A', g3, g4, g5⟩ := g
  exact ⟨z, g1, g2, I', A', g3, ⟨h.trans g4.1, g4.2⟩, g5⟩
section RXU
variable {L : Nat} {xs : Nat → Int32} {S : ty_S} {I : Nat → Int} {A : Nat → Int → Int}
theorem rx_dn {P : mo_P} {M : mo_M} (h : mo_MI P M) : M.2.2.2.2.2.1.2.2.2.2.1.length ≤ 500 := by
  obtain ⟨b1, b2, b3, b4⟩ := h
  have := mo_count M.2.2.2.2.2.1.2.2.2.1.toNat _ b3.2.2.1.2.2.1 (fun e he => by have := b3.2.2.1.2.2.2 e he; omega)
  omega
theorem rx_unify (d : Nat) (hS : ty_st S) {P : mo_P} (hW : mo_PW P) {M : mo_M} (hMI : mo_MI P M) {ta rl : Int → Int} {nc ng na : Int} (hX : rx_S I A P.1 ta rl nc ng na M) {ps : List (Int × Int)} (hstk : rm_stk P.1 ta nc (A 78) (A 79) (I 36) ps) (hpo : mo_po P.1 M.2.2.2.2.2.1.1 ps) (hlen : ps.length ≤ 3) {body : List mo_Go} (hbo : ∀ g ∈ body, mo_go P.1 M.2.2.2.2.2.1.1 g) {behind : Int} (htd : rm_td P.1 ta nc A ng behind (body ++ M.2.2.2.2.2.2.1)) :
    ty_C L xs (d + 6) 131 [.inr (.inr (some (94, 0))), .inl (ty_J behind)] (rm_s S I A) (rx_p S I A P (mo_fin P M ps body (mo_an M))) := by
  have hfin := mo_fin_I hW hMI hpo hbo (mo_an_r hMI).1 (newest := mo_an M)
  have hdn := rx_dn hMI
  have hE := hX.E hMI
  obtain ⟨st, came, sl, al, ar, ⟨made, bd, ch, ns, dn, an, aw⟩, todo, cs, ans⟩ := M
  have hMI0 := hMI
  obtain ⟨b1, b2, ⟨a1, a2, a3, a4, a5, a6, a7, a8⟩, b4⟩ := hMI
  simp only at b1 b2 a1 a2 a3 a4 a5 a6 a7 a8 b4 hpo hbo htd hdn
  obtain ⟨x1, x2, x3, x4, x5, x6, x7, x8, x9, x10, ⟨v1, v2, v3, v4, v5⟩, x12⟩ := hX
  simp only at x2 x3 x4 x5 x6 x7 x8 x9 x10 x12 v1 v2 v3 v4 v5
  have e : mo_an (st, came, sl, al, ar, (made, bd, ch, ns, dn, an, aw), todo, cs, ans) = an := rfl
  rw [e] at hfin ⊢
  rw [mo_fin_fi] at hfin ⊢
  have hR : rs_R (rm_u (rm_u I 39 0) 37 0) A P.1 ta nc made ns false st 0 (ps, bd, ch, [], false) := ⟨x2, x1.1, x3, hstk, ⟨rfl, x1.2⟩, ⟨⟨Int.le_refl _, x2.2.1⟩, fun _ => rm_wk_nil⟩, v2, v3, v1, ⟨x5.2.1, by omega⟩, ⟨a1, by omega⟩, a4, by omega⟩
  have hU := rm_unify (L := L) (xs := xs) d hS hW.1 (show made ≤ 13000 by omega) (sl := sl) (tdl := body ++ todo) (behind := behind) hR hlen hpo a2 a3 v4 v5 x8 (by omega) a7 x6.1 ⟨x6.2.1, by omega⟩ htd
  generalize mo_fi P.1 st ps bd ch al ar an aw = q at hfin hU ⊢
  obtain ⟨qc, qst, qbd, qch, qwk, qaw⟩ := q
  simp only at hfin ⊢
  obtain ⟨f1, f2, f3, f4⟩ := hfin
  refine hU.mono (fun o S' h => ?_)
  obtain ⟨z, rfl, hz, I', A', rfl, h1, h2, h3, h4, h5⟩ := h
  simp only at hz h1 h2 h4 h5
  have hE' : rx_E I' := by
    obtain ⟨e1, e2, e3⟩ := hE
    have n1 := h3.1
    unfold rx_E
    rw [n1 40 (by decide) (by decide) (by decide) (by decide) (by decide) (by decide) (by decide) (by decide), n1 33 (by decide) (by decide) (by decide) (by decide) (by decide) (by decide) (by decide) (by decide), n1 35 (by decide) (by decide) (by decide) (by decide) (by decide) (by decide) (by decide) (by decide)]
    exact ⟨e1, e2, e3⟩
  refine ⟨z, rfl, hz, I', A', rfl, ⟨h3.K, hE'⟩, ?_⟩
  by_cases c2 : qc = 2
  · refine .inl ⟨c2, ?_⟩
    rw [if_pos c2] at h1
    exact h1.2.1
  · have hXn : rx_S I' A' P.1 ta rl nc (if qc = 1 then ng + qwk.length else ng) na (qst, came, sl, al, ar, (made, qbd, qch, ns, dn ++ qwk, an, qaw), if qc = 1 then mo_wg sl qwk ++ body ++ todo else todo, cs, ans) := by
      rw [if_neg c2] at h1
      obtain ⟨r1, r2, r3, r4, r5, r6, r7, r8⟩ := h1
      obtain ⟨n1, n2, n3, n4⟩ := h3
      have ni := fun k h1 h2 h3 h4 h5 h6 h7 h8 => n1 k h1 h2 h3 h4 h5 h6 h7 h8
      refine ⟨⟨r2, r4⟩, r1, r3, ?_, ?_, ?_, ?_, ?_, ?_, ?_, ⟨r7, r5, r6, ?_, h2⟩, ?_⟩
      · exact ⟨(n1 _ (by decide) (by decide) (by decide) (by decide) (by decide) (by decide) (by decide) (by decide)).trans x4.1, (n1 _ (by decide) (by decide) (by decide) (by decide) (by decide) (by decide) (by decide) (by decide)).trans x4.2⟩
      · exact ⟨(n1 _ (by decide) (by decide) (by decide) (by decide) (by decide) (by decide) (by decide) (by decide)).trans x5.1, x5.2.1, show nc ≤ 24 + 24 * qst by have : st ≤ qst := f3; omega⟩
      · have f3 : st ≤ qst := f3
        simp only
        rw [List.length_append]
        by_cases c1 : qc = 1
        · rw [if_pos c1]
          exact ⟨(h4 c1).1, by omega, by omega⟩
        · rw [if_neg c1]
          exact ⟨h5 c1, x6.2.1, by omega⟩
      · exact (n1 _ (by decide) (by decide) (by decide) (by decide) (by decide) (by decide) (by decide) (by decide)).trans x7
      · exact (n1 _ (by decide) (by decide) (by decide) (by decide) (by decide) (by decide) (by decide) (by decide)).trans x8
      · exact (n1 _ (by decide) (by decide) (by decide) (by decide) (by decide) (by decide) (by decide) (by decide)).trans x9
      · exact (n1 _ (by decide) (by decide) (by decide) (by decide) (by decide) (by decide) (by decide) (by decide)).trans x10
      · intro e e0 e1
        rw [n2 73 (by decide) (by decide) (by decide) (by decide) (by decide) (by decide) (by decide) (by decide) (by decide) (by decide) (by decide) (by decide) (by decide) (by decide) (by decide) (by decide)]
        exact v4 e e0 e1
      · refine rx_C_k hW.1 (show st ≤ qst from f3) n4.1 cs made ns an nc ng na (I 32) _ _ _ _ b4 x12 (rn_f.k ⟨n1, n2, n3, n4⟩) (fun _ _ _ => rfl) (fun _ _ _ => ⟨rfl, rfl⟩) (fun _ _ _ => rfl) (Int.le_refl _) ?_ (Int.le_refl _) n4.1 (Int.le_refl _)
        split <;> omega
    by_cases c1 : qc = 1
    · refine .inr (.inr (.inr ⟨c1, ta, rl, nc, ng + qwk.length, na, ?_, ?_⟩))
      · rw [if_pos c1] at hXn
        exact hXn
      · have := (h4 c1).2
        show rm_td P.1 ta nc A' (ng + qwk.length) (I' 29) (if qc = 1 then mo_wg sl qwk ++ body ++ todo else todo)
        rw [if_pos c1, List.append_assoc]
        exact this
    · exact .inr (.inr (.inl ⟨by simp only; omega, ta, rl, hXn.B⟩))
end RXU
