/-! What others do leaves the search alone. -/
def cs_N (S S' : ty_S) : Prop := ty_st S' ∧ (∀ b : ai_A, b.1 ∈ cs_so → ∀ j, S'.1 b j = S.1 b j ∧ S'.2.1 b j = S.2.1 b j) ∧ (∀ b : ai_A, b.1 ∈ cs_sa → S'.2.2.1 b = S.2.2.1 b ∧ S'.2.2.2.1 b = S.2.2.2.1 b ∧ S'.2.2.2.2.2.1 b = S.2.2.2.2.2.1 b) ∧ (∀ s, S.2.2.2.2.2.2.1 s ≤ S'.2.2.2.2.2.2.1 s) ∧ S'.2.2.2.2.2.2.1 49 = S.2.2.2.2.2.2.1 49 ∧ S'.2.2.2.2.2.2.1 52 = S.2.2.2.2.2.2.1 52
theorem cs_N.refl {S : ty_S} (h : ty_st S) : cs_N S S := ⟨h, fun _ _ _ => ⟨rfl, rfl⟩, fun _ _ => ⟨rfl, rfl, rfl⟩, fun _ => Nat.le_refl _, rfl, rfl⟩
theorem cs_N.trans {S S1 S2 : ty_S} (h : cs_N S S1) (g : cs_N S1 S2) : cs_N S S2 := ⟨g.1, fun b a j => ⟨(g.2.1 b a j).1.trans (h.2.1 b a j).1, (g.2.1 b a j).2.trans (h.2.1 b a j).2⟩, fun b a => ⟨(g.2.2.1 b a).1.trans (h.2.2.1 b a).1, (g.2.2.1 b a).2.1.trans (h.2.2.1 b a).2.1, (g.2.2.1 b a).2.2.trans (h.2.2.1 b a).2.2⟩, fun s => Nat.le_trans (h.2.2.2.1 s) (g.2.2.2.1 s), g.2.2.2.2.1.trans h.2.2.2.2.1, g.2.2.2.2.2.trans h.2.2.2.2.2⟩
theorem cs_N.C {S S' : ty_S} (h : cs_N S S') : cs_N (cs_C S) (cs_C S') := by
  refine ⟨h.1, fun b a j => ⟨?_, (h.2.1 b a j).2⟩, h.2.2.1, h.2.2.2⟩
  show (if b = (38, 0) ∧ j = 7 then 0 else if b = (38, 0) ∧ j = 5 then 0 else S'.1 b j) = (if b = (38, 0) ∧ j = 7 then 0 else if b = (38, 0) ∧ j = 5 then 0 else S.1 b j)
  rw [(h.2.1 b a j).1]
theorem cs_sh_N {S S' : ty_S} {B F E : ai_A} {n : Nat} (h : cv_sh S B F E n) (hN : cs_N S S') : cv_sh S' B F E n := by
  obtain ⟨v1, v2, v3, v4, v5, v6, v7⟩ := h
  have mB : ∀ X : ai_A, (X.1 = 23 ∨ X.1 = 48) ∨ (X.1 = 24 ∨ X.1 = 48) ∨ (X.1 = 25 ∨ X.1 = 48) → X.1 ∈ cs_sa := fun X hX => by
    rcases hX with (h | h) | (h | h) | h | h <;> rw [h] <;> decide
  refine ⟨?_, v2, ⟨Nat.lt_of_lt_of_le v3.1 (hN.2.2.2.1 _), Nat.lt_of_lt_of_le v3.2.1 (hN.2.2.2.1 _), Nat.lt_of_lt_of_le v3.2.2 (hN.2.2.2.1 _)⟩, ?_, v5, v6, v7⟩
  · rw [(hN.2.1 (13, 0) (by decide) _).2, (hN.2.1 (13, 0) (by decide) _).2, (hN.2.1 (13, 0) (by decide) _).2]
    exact v1
  · rw [(hN.2.2.1 B (mB B (.inl v6.1))).2.2, (hN.2.2.1 F (mB F (.inr (.inl v6.2.1)))).2.2, (hN.2.2.1 E (mB E (.inr (.inr v6.2.2)))).2.2]
    exact v4
theorem cs_L_N {S S' : ty_S} {D1 : ai_A} {n1 c1 : Nat} {D2 : ai_A} {n2 c2 : Nat} (h : cs_L S D1 n1 c1 D2 n2 c2) (hN : cs_N S S') : cs_L S' D1 n1 c1 D2 n2 c2 := by
  have k : ∀ (s' i' : Nat) (D : ai_A) (s m c : Nat), s' ∈ cs_so → jd_al S (s', i') s D m c → jd_al S' (s', i') s D m c := fun s' i' D s m c hs hj => by
    refine jd_al_keep hj (hN.2.1 (s', i') hs 1).1 (hN.2.1 (s', i') hs 0).2 (fun hD => ?_) hN.2.2.2.1
    rcases hj.2.2.2.2.2 with z | ⟨z, -⟩
    · exact absurd z.1 hD
    · have hm : D.1 ∈ cs_sa := by rcases z with z | z <;> rw [z] <;> decide
      exact ⟨(hN.2.2.1 D hm).2.1, (hN.2.2.1 D hm).2.2⟩
  exact ⟨k _ _ _ _ _ _ (by decide) h.1, k _ _ _ _ _ _ (by decide) h.2.1, by rw [hN.2.2.2.2.1]; exact h.2.2.1, by rw [hN.2.2.2.2.2]; exact h.2.2.2.1, h.2.2.2.2⟩
theorem cs_I_N {S S' : ty_S} {K : Nat × Nat} {th th' : Nat} (h : cs_I S K th) (hN : cs_N S S') (hk : ∀ n1 c1 n2 c2 n, cs_k S K n1 c1 n2 c2 n th → cs_k S' K n1 c1 n2 c2 n th') : cs_I S' K th' := by
  obtain ⟨B, F, E, n, D1, n1, c1, D2, n2, c2, h1, h2, h3, h4, h5, h6, h7⟩ := h
  exact ⟨B, F, E, n, D1, n1, c1, D2, n2, c2, hN.1, cs_sh_N h2 hN, cs_L_N h3 hN, h4, h5, hk _ _ _ _ _ h6, h7⟩
theorem cs_R_N {S S' : ty_S} {P P' : mo_P} {K : Nat × Nat} {th th' : Nat} {M : mo_M} {ps : List (Int × Int)} {wk : List Int} {fl : Bool} {B F E : ai_A} {n : Nat} {D1 : ai_A} {n1 c1 : Nat} {D2 : ai_A} {n2 c2 u W : Nat} (h : cs_R S P K th M ps wk fl B F E n D1 n1 c1 D2 n2 c2 u W) (hN : cs_N S S') (hP : cs_Pd S' P') (hm : P'.2.1 = P.2.1) (hk : ∀ n1 c1 n2 c2 n, cs_k S K n1 c1 n2 c2 n th → cs_k S' K n1 c1 n2 c2 n th') :
    cs_R S' P' K th' M ps wk fl B F E n D1 n1 c1 D2 n2 c2 u W := by
  obtain ⟨st, came, sl, al, ar, ⟨made, bd, ch, ns, dn, an, aw⟩, todo, cs, ans⟩ := M
  obtain ⟨h1, h2, h3, h4, h5, h6, h7, h8, h9, h10, h11⟩ := h
  obtain ⟨r1, r2, r3, r4, r5, r6, r7, r8, r9, r10, r11, r12⟩ := h1
  have oI : ∀ s i j : Nat, s ∈ cs_so → S'.1 (s, i) j = S.1 (s, i) j := fun s i j hs => (hN.2.1 (s, i) hs j).1
  have oR : ∀ s i j : Nat, s ∈ cs_so → S'.2.1 (s, i) j = S.2.1 (s, i) j := fun s i j hs => (hN.2.1 (s, i) hs j).2
  have oA : ∀ s i : Nat, s ∈ cs_sa → S'.2.2.1 (s, i) = S.2.2.1 (s, i) := fun s i hs => (hN.2.2.1 (s, i) hs).1
  have v6 := r2.2.2.2.2.2.1
  have eB : S'.2.2.1 B = S.2.2.1 B := (hN.2.2.1 B (by rcases v6.1 with z | z <;> rw [z] <;> decide)).1
  have eF : S'.2.2.1 F = S.2.2.1 F := (hN.2.2.1 F (by rcases v6.2.1 with z | z <;> rw [z] <;> decide)).1
  have eE : S'.2.2.1 E = S.2.2.1 E := (hN.2.2.1 E (by rcases v6.2.2 with z | z <;> rw [z] <;> decide)).1
  have eA : cs_arr S' B F E = cs_arr S B F E := by
    unfold cs_arr
    rw [eB, eF, eE, oA 26 0 (by decide), oA 28 0 (by decide), oA 29 0 (by decide), oA 30 0 (by decide), oA 45 0 (by decide), oA 46 0 (by decide), oI 13 0 _ (by decide), oI 13 0 _ (by decide), oI 39 0 _ (by decide)]
  refine ⟨⟨hN.1, cs_sh_N r2 hN, hP.1, ?_, ?_, ?_, ?_, ?_, ?_, ?_, ?_, r12⟩, ?_, ⟨hP.1, ?_, ?_, hP.2⟩, cs_L_N h4 hN, ?_, ?_, ?_, ?_, ⟨?_, ?_, ?_⟩, hk _ _ _ _ _ h10, h11⟩
  · rw [oI _ _ _ (by decide)]; exact r4
  · rw [oI _ _ _ (by decide)]; exact r5
  · rw [oA 40 0 (by decide), oA 41 0 (by decide), oI _ _ _ (by decide)]; exact r6
  · rw [oA 42 0 (by decide), oI _ _ _ (by decide)]; exact r7
  · rw [eB, eF, eE, oA 28 0 (by decide)]; exact r8
  · rw [oA 27 0 (by decide)]; exact r9
  · rw [oA 26 0 (by decide), oI _ _ _ (by decide)]; exact r10
  · rw [oA 29 0 (by decide), oA 30 0 (by decide), oI _ _ _ (by decide)]; exact r11
  · unfold ca_R
    rw [oI _ _ _ (by decide), oI _ _ _ (by decide), oA 43 0 (by decide), oA 44 0 (by decide), oA 45 0 (by decide), oA 46 0 (by decide)]
    exact h2
  · rw [oR _ _ _ (by decide)]; exact h3.2.1
  · rw [oI _ _ _ (by decide), hm]; exact h3.2.2.1
  · rw [oI _ _ _ (by decide)]; exact h5
  · rw [oR _ _ _ (by decide)]
    exact cs_td_eq (fun i _ j => ⟨oI _ _ _ (by decide), oR _ _ _ (by decide)⟩) h6
  · rw [oI _ _ _ (by decide)]; exact h7
  · rw [eA, oI _ _ _ (by decide), oI _ _ _ (by decide), oI 39 _ _ (by decide)]
    exact cs_ck_keep cs _ _ h8 ⟨Int.le_refl _, Int.le_refl _, Int.le_refl _, Nat.le_refl _, Int.le_refl _, Int.le_refl _, Int.le_refl _⟩ (fun i _ j => ⟨oI _ _ _ (by decide), oR _ _ _ (by decide)⟩) (fun i _ j => ⟨oI _ _ _ (by decide), oR _ _ _ (by decide)⟩) (fun _ _ _ _ _ _ _ _ _ _ _ _ _ z => z)
  · rw [oI _ _ _ (by decide)]; exact h9.1
  · rw [oI _ _ _ (by decide)]; exact h9.2.1
  · rw [oI _ _ _ (by decide)]; exact h9.2.2
theorem cs_Y_N {S S' : ty_S} {P P' : mo_P} {K : Nat × Nat} {th th' : Nat} {M : mo_M} (h : cs_Y S P K th M) (hN : cs_N S S') (hP : cs_Pd S' P') (hm : P'.2.1 = P.2.1) (hk : ∀ n1 c1 n2 c2 n, cs_k S K n1 c1 n2 c2 n th → cs_k S' K n1 c1 n2 c2 n th') : cs_Y S' P' K th' M := by
  obtain ⟨B, F, E, n, D1, n1, c1, D2, n2, c2, u, W, hR⟩ := h
  exact ⟨B, F, E, n, D1, n1, c1, D2, n2, c2, u, W, cs_R_N hR hN.C (cs_Pd_F hP cs_C_F) hm hk⟩
/-! Programs that agree on what is in use. -/
def mo_E (G G' : mo_G) : Prop := G'.2.2.2.2 = G.2.2.2.2 ∧ ∀ n, G.2.2.2.2.2 n → G'.1 n = G.1 n ∧ G'.2.1 n = G.2.1 n
theorem mo_ok_E {G G' : mo_G} (h : mo_E G G') {made t : Int} (ht : mo_ok G made t) : mo_ok G' made t := by
  unfold mo_ok at ht ⊢
  rw [h.1]
  exact ht
theorem mo_MI_E {P P' : mo_P} (hE : mo_E P.1 P'.1) (h2 : P'.2.1 = P.2.1) (h3 : P'.2.2.1 = P.2.2.1) (hh : ∀ i, 0 ≤ i → i < (P.2.1 : Int) → P.1.2.2.2.2.2 (P.2.2.1 i) ∧ 0 ≤ P.2.2.1 i ∧ P.2.2.1 i < 624) {M : mo_M} (h : mo_MI P M) : mo_MI P' M := by
  have ok : ∀ {made t : Int}, mo_ok P.1 made t → mo_ok P'.1 made t := fun ht => mo_ok_E hE ht
  have go : ∀ {made : Int} {g : mo_Go}, mo_go P.1 made g → mo_go P'.1 made g := fun hg => ⟨hg.1.imp id (fun z => ⟨z.1, ok z.2.1, ok z.2.2⟩), hg.2⟩
  have bw : ∀ {made : Int} {bd : Int → Int}, mo_bw P.1 made bd → mo_bw P'.1 made bd := fun hb v v0 v1 => by
    rcases hb v v0 v1 with z | ⟨z1, z2, z3⟩ | z
    · exact .inl z
    · refine .inr (.inl ⟨z1, ok z2, ?_⟩)
      unfold mo_l at z3 ⊢
      rw [(hE.2 _ z2.2.1).1]
      exact z3
    · exact .inr (.inr z)
  have vi : ∀ {sl al ar : Int → Int} {V : mo_V} {todo : List mo_Go}, mo_VI P sl al ar V todo → mo_VI P' sl al ar V todo := fun hv => ⟨hv.1, bw hv.2.1, hv.2.2.1, hv.2.2.2.1, hv.2.2.2.2.1, fun e e0 e1 => ok (hv.2.2.2.2.2.1 e e0 e1), fun i i0 i1 => ⟨ok (hv.2.2.2.2.2.2.1 i i0 i1).1, ok (hv.2.2.2.2.2.2.1 i i0 i1).2⟩, fun g hg => go (hv.2.2.2.2.2.2.2 g hg)⟩
  have ci : ∀ {sl al ar : Int → Int} {st : Int} (cs : List mo_Ch) (md ns an : Int), mo_CI P sl al ar st md ns an cs → mo_CI P' sl al ar st md ns an cs := fun {sl al ar st} cs => by
    induction cs with
    | nil => exact fun _ _ _ _ => trivial
    | cons c cs ih =>
      obtain ⟨t, i, todo, V⟩ := c
      rintro md ns an ⟨a1, ⟨b1, b2, b3, b4⟩, a3, a4⟩
      refine ⟨a1, ⟨b1, by rw [h2]; exact b2, ?_, ok b4⟩, vi a3, ih _ _ _ a4⟩
      obtain ⟨q1, q2, q3⟩ := hh i b1 b2
      unfold mo_fits mo_l mo_a at b3 ⊢
      rw [h3, (hE.2 _ b4.2.1).1, (hE.2 _ b4.2.1).2, show P.2.2.1 i % 624 = P.2.2.1 i by omega, (hE.2 _ q1).1, (hE.2 _ q1).2]
      rw [show P.2.2.1 i % 624 = P.2.2.1 i by omega] at b3
      exact b3
  exact ⟨h.1, h.2.1, vi h.2.2.1, ci _ _ _ _ h.2.2.2⟩
theorem dk_E {S S' : ty_S} {tau : dk_T} (hU : dk_U S tau) (hU' : dk_U S' tau) : mo_E (dk_G S tau) (dk_G S' tau) := by
  refine ⟨rfl, ?_⟩
  rintro n ⟨x, t, p, as, ht, hm, rfl⟩
  obtain ⟨-, a1, a2, -⟩ := dk_node hU ht hm
  obtain ⟨-, b1, b2, -⟩ := dk_node hU' ht hm
  exact ⟨b1.trans a1.symm, b2.trans a2.symm⟩
theorem dk_MI_E {S S' : ty_S} {tau : dk_T} {s : Nat → Nat} {m : Nat} (hU : dk_U S tau) (hU' : dk_U S' tau) (hs : dk_s tau s m) {M : mo_M} (h : mo_MI (dk_P S tau s m) M) : mo_MI (dk_P S' tau s m) M :=
  mo_MI_E (P := dk_P S tau s m) (P' := dk_P S' tau s m) (dk_E hU hU') rfl rfl (fun i i0 i1 => ((dk_PW hU hs).2.2 i i0 i1).1) h
