/-! The class's rows may change outside of the texts in use. -/
/-- what counts of the rows is the same -/
def mo_EE (G G' : mo_G) : Prop := G'.2.2.2.2 = G.2.2.2.2 ∧ ∀ n, G.2.2.2.2.2 n → G'.1 n = G.1 n ∧ G'.2.1 n = G.2.1 n ∧ (∀ k, 0 ≤ k → k < G.2.1 n → G'.2.2.1 (n * 3 + k) = G.2.2.1 (n * 3 + k)) ∧ (65 ≤ G.1 n ∧ G.1 n ≤ 90 → G'.2.2.2.1 n = G.2.2.2.1 n)
theorem dk_EE {S S' : ty_S} {tau : dk_T} (hU : dk_U S tau) (hU' : dk_U S' tau) : mo_EE (dk_G S tau) (dk_G S' tau) := by
  refine ⟨rfl, ?_⟩
  rintro n ⟨x, t, p, as, ht, hm, rfl⟩
  obtain ⟨h1, h2, h3, h4, h5, h6⟩ := dk_node hU ht hm
  obtain ⟨g1, g2, g3, g4, g5, g6⟩ := dk_node hU' ht hm
  refine ⟨g2.trans h2.symm, g3.trans h3.symm, fun k k0 k1 => ?_, fun hv => ?_⟩
  · have k1 : k < S.2.2.1 (20, 0) (48 * x + p) := k1
    rw [h3] at k1
    have hk : as[k.toNat]? = some as[k.toNat] := List.getElem?_eq_getElem (by omega)
    have q1 := (h5 k.toNat _ hk).1
    have q2 := (g5 k.toNat _ hk).1
    rw [show ((k.toNat : Nat) : Int) = k by omega] at q1 q2
    exact q2.trans q1.symm
  · have hv : 65 ≤ S.2.2.1 (19, 0) (48 * x + p) ∧ S.2.2.1 (19, 0) (48 * x + p) ≤ 90 := hv
    rw [h2] at hv
    exact (g6 hv).1.trans (h6 hv).1.symm
section EEE
variable {G G' : mo_G}
theorem ee_ok (h : mo_EE G G') {made t : Int} (ht : mo_ok G made t) : mo_ok G' made t := by
  unfold mo_ok at ht ⊢
  rw [h.1]
  exact ht
theorem ee_l (h : mo_EE G G') {made t : Int} (ht : mo_ok G made t) : mo_l G' t = mo_l G t := (h.2 _ ht.2.1).1
theorem ee_a (h : mo_EE G G') {made t : Int} (ht : mo_ok G made t) : mo_a G' t = mo_a G t := (h.2 _ ht.2.1).2.1
theorem ee_g (h : mo_EE G G') {made t : Int} (ht : mo_ok G made t) {k : Int} (h0 : 0 ≤ k) (hk : k < mo_a G t) : mo_g G' t k = mo_g G t k := by
  unfold mo_g
  rw [(h.2 _ ht.2.1).2.2.1 k h0 hk]
theorem ee_nf (h : mo_EE G G') {made t : Int} (ht : mo_ok G made t) : rm_nf G' t = rm_nf G t := by
  unfold rm_nf
  rw [ee_l h ht]
  by_cases e : 65 ≤ mo_l G t ∧ mo_l G t ≤ 90
  · rw [if_pos e, if_pos e]
    unfold mo_v
    rw [(h.2 _ ht.2.1).2.2.2 e]
  · rw [if_neg e, if_neg e]
theorem ee_t (h : mo_EE G G') {made t : Int} (ht : mo_ok G made t) {ta : Int → Int} {nc x : Int} (hx : rm_t G ta nc x t) : rm_t G' ta nc x t := by
  unfold rm_t at hx ⊢
  rw [ee_nf h ht]
  exact hx
theorem ee_cell (hw : mo_wf G) (h : mo_EE G G') {made : Int} {ta : Int → Int} {nc c : Int} {A : Nat → Int → Int} (hc : rm_cell G made ta nc A c) : rm_cell G' made ta nc A c := by
  obtain ⟨h1, h2, h3, h4, h5⟩ := hc
  unfold rm_cell
  rw [ee_l h h1, ee_a h h1]
  refine ⟨ee_ok h h1, h2, h3, h4, fun k k0 k1 => ?_⟩
  rw [ee_g h h1 k0 k1]
  exact ee_t h (mo_ok_arg hw h1 k0 k1) (h5 k k0 k1)
theorem ee_td (h : mo_EE G G') {made : Int} {ta : Int → Int} {nc : Int} {A : Nat → Int → Int} {ng : Int} : ∀ (gs : List mo_Go) (p : Int), (∀ g ∈ gs, mo_go G made g) → rm_td G ta nc A ng p gs → rm_td G' ta nc A ng p gs
  | [], _, _, hp => hp
  | g :: gs, p, hg, hp => by
    obtain ⟨h1, h2, h3, h4⟩ := hp
    refine ⟨h1, h2, ?_, ee_td h gs _ (fun g' hg' => hg g' (List.mem_cons_of_mem _ hg')) h4⟩
    have hgo := (hg g List.mem_cons_self).1
    rcases h3 with z | ⟨z1, z2, z3, z4⟩ | ⟨z1, z2, z3⟩
    · exact .inl z
    · have ok := hgo.resolve_left (by omega)
      exact .inr (.inl ⟨z1, z2, z3, ee_t h ok.2.1 z4⟩)
    · have ok := hgo.resolve_left (by omega)
      exact .inr (.inr ⟨z1, ee_t h ok.2.1 z2, ee_t h ok.2.2 z3⟩)
theorem ee_V {P : mo_P} (hw : mo_wf P.1) (h : mo_EE P.1 G') {sl al ar rl ta : Int → Int} {A R : Nat → Int → Int} {nc na : Int} {V : mo_V} {todo : List mo_Go} (hV : mo_VI P sl al ar V todo) (hx : rx_V P.1 sl al ar rl ta A R nc na V) : rx_V G' sl al ar rl ta A R nc na V := by
  obtain ⟨a1, a2, a3, a4, a5, a6, a7, a8⟩ := hV
  obtain ⟨v1, v2, v3, v4, w1, w2, w3, w4⟩ := hx
  refine ⟨fun c c0 c1 => ee_cell hw h (v1 c c0 c1), v2, v3, fun e e0 e1 => ⟨(v4 e e0 e1).1, ee_t h (a6 e e0 e1) (v4 e e0 e1).2⟩, w1, fun k k0 k1 => ?_, w3, w4⟩
  obtain ⟨k1', k2, k3, k4⟩ := w2 k k0 k1
  obtain ⟨o1, o2⟩ := a7 (rl k) k1'.1 k1'.2
  exact ⟨k1', ee_t h o1 k2, ee_t h o2 k3, k4⟩
theorem ee_C {P : mo_P} (hw : mo_wf P.1) (h : mo_EE P.1 G') {sl al ar rl ta : Int → Int} {A : Nat → Int → Int} {TL st st0 : Int} : ∀ (cs : List mo_Ch) (nc ng na tl md ns an : Int), mo_CI P sl al ar st0 md ns an cs → rx_C P.1 sl al ar rl ta A TL st nc ng na tl cs → rx_C G' sl al ar rl ta A TL st nc ng na tl cs
  | [], _, _, _, _, _, _, _, _, _ => trivial
  | (t, i, todo, V) :: cs, nc, ng, na, tl, md, ns, an, hI, hx => by
    obtain ⟨a1, a2, a3, a4⟩ := hI
    obtain ⟨x, nc1, ng1, na1, tl1, b1, b2, b3, b4, b5, b6, b7, b8, b9⟩ := hx
    exact ⟨x, nc1, ng1, na1, tl1, b1, b2, b3, b4, b5, ⟨b6.1, ee_t h a2.2.2.2 b6.2⟩, ee_td h _ _ a3.2.2.2.2.2.2.2 b7, ee_V hw h a3 b8, ee_C hw h cs _ _ _ _ _ _ _ a4 b9⟩
theorem ee_S {P : mo_P} (hw : mo_wf P.1) (h : mo_EE P.1 G') {I : Nat → Int} {A : Nat → Int → Int} {ta rl : Int → Int} {nc ng na : Int} {M : mo_M} (hMI : mo_MI P M) (hx : rx_S I A P.1 ta rl nc ng na M) : rx_S I A G' ta rl nc ng na M := by
  obtain ⟨b1, b2, b3, b4⟩ := hMI
  obtain ⟨x1, x2, x3, x4, x5, x6, x7, x8, x9, x10, x11, x12⟩ := hx
  exact ⟨x1, x2, x3, x4, x5, x6, x7, x8, x9, x10, ee_V hw h b3 x11, ee_C hw h _ _ _ _ _ _ _ _ b4 x12⟩
end EEE
/-- the reference's state does not mind -/
theorem rm_R_rows {S0 S1 : ty_S} {I : Nat → Int} {A : Nat → Int → Int} {tau : dk_T} {s : Nat → Nat} {tx : List Int} {pl : Int} {m : Nat} {as : Option mo_M} (hU : dk_U S0 tau) (hU1 : dk_U S1 tau) (hMI : ∀ M, as = some M → mo_MI (dk_P S0 tau s m) M) (h : rm_R S0 I A tau s tx pl m as) : rm_R S1 I A tau s tx pl m as := by
  obtain ⟨h1, h2, h3, h4, h5, h6⟩ := h
  refine ⟨h1, h2, h3, h4, h5, ?_⟩
  cases as with
  | none => trivial
  | some M =>
    obtain ⟨g1, g2, ta, rl, nc, ng, na, g3⟩ := h6
    exact ⟨g1, g2, ta, rl, nc, ng, na, ee_S (P := dk_P S0 tau s m) (dk_wf hU) (dk_EE hU hU1) (hMI M rfl) g3⟩
