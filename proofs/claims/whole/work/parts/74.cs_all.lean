/-! The search and all its rows. -/
/-- ghosts: the variables' rows, the lists' rows, goals in use, and a bound W for those that choices keep -/
def cs_R (S : ty_S) (P : mo_P) (K : Nat × Nat) (th : Nat) (M : mo_M) (ps : List (Int × Int)) (wk : List Int) (fl : Bool) (B F E : ai_A) (n : Nat) (D1 : ai_A) (n1 c1 : Nat) (D2 : ai_A) (n2 c2 u W : Nat) : Prop := match M with
  | (st, came, sl, al, ar, (made, bd, ch, ns, dn, an, aw), todo, cs, ans) =>
    cp_R S B F E n P.1 made ns sl st st (ps, bd, ch, wk, fl) ∧ ca_R S an al ar aw st ∧ cs_P S P ∧ cs_L S D1 n1 c1 D2 n2 c2 ∧ (S.1 (17, 0) 8 = u ∧ u ≤ n1 ∧ (u : Int) ≤ 24 + 524 * st ∧ n1 ≤ 262024 ∧ W ≤ u ∧ (cs ≠ [] → (W : Int) + 524 ≤ 24 + 524 * st)) ∧ cs_td S u (S.2.1 (17, 0) 9) todo ∧
    (S.1 (17, 0) 11 = cs.length ∧ cs.length ≤ n2 ∧ (cs.length : Int) ≤ st ∧ n2 ≤ 500) ∧ cs_ck S (cs_arr S B F E) (S.1 (13, 0) 7, S.1 (13, 0) 13, S.1 (39, 0) 7, W, made, ns, an) cs ∧ (S.1 (13, 0) 5 = came ∧ S.1 (13, 0) 10 = ns ∧ S.1 (17, 0) 12 = ans) ∧ cs_k S K n1 c1 n2 c2 n th ∧ 128 ≤ n ∧ n ≤ 50000
/-- variables come to be -/
theorem cs_R_make {S S' : ty_S} {P : mo_P} {K : Nat × Nat} {th : Nat} {st came : Int} {sl al ar : Int → Int} {made : Int} {bd : Int → Int} {ch : Int → List Int} {ns : Int} {dn : List Int} {an : Int} {aw : Int → Bool} {todo : List mo_Go} {cs : List mo_Ch} {ans : Int} {ps : List (Int × Int)} {wk : List Int} {fl : Bool} {B F E B' F' E' : ai_A} {n n' : Nat} {D1 : ai_A} {n1 c1 : Nat} {D2 : ai_A} {n2 c2 u W : Nat} {nv : Int}
    (h : cs_R S P K th (st, came, sl, al, ar, (made, bd, ch, ns, dn, an, aw), todo, cs, ans) ps wk fl B F E n D1 n1 c1 D2 n2 c2 u W) (hm : cm_R S S' B F E n made nv B' F' E' n') (hnv : 0 ≤ nv ∧ made + nv ≤ 25000) :
    cs_R S' P K th (st, came + nv, sl, al, ar, (made + nv, mo_nb bd made (made + nv), mo_nc ch made (made + nv), ns, dn, an, aw), todo, cs, ans) ps wk fl B' F' E' n' D1 n1 c1 D2 n2 c2 u W := by
  obtain ⟨h1, h2, h3, h4, h5, h6, h7, h8, h9, h10, h11⟩ := h
  obtain ⟨r1, r2, r3, r4, r5, r6, r7, r8, r9, r10, r11, r12⟩ := h1
  obtain ⟨m1, m2, m3, m4, m5, m6, m7, m8, m9, m10, m11, m12, m13, m14, m15⟩ := hm
  have oI : ∀ b j, b ≠ (13, 0) → S'.1 b j = S.1 b j := fun b j hb => m3 b j (fun z => hb z.1)
  have oV : ∀ j, j ≠ 4 → j ≠ 5 → S'.1 (13, 0) j = S.1 (13, 0) j := fun j h1 h2 => m3 _ j (fun z => z.2.elim h1 h2)
  have oA : ∀ s i : Nat, s ≠ 23 → s ≠ 24 → s ≠ 25 → s ≠ 48 → S'.2.2.1 (s, i) = S.2.2.1 (s, i) := fun s i a b c d => (m10 (s, i) a b c d).1
  have nn : n ≤ n' := by
    rcases m15 with z | z
    · omega
    · omega
  have cmono : ∀ s, S.2.2.2.2.2.2.1 s ≤ S'.2.2.2.2.2.2.1 s := fun s => by
    by_cases e : s = 48
    · rw [e]; exact m14
    · rw [m13 s e]; exact Nat.le_refl _
  have xA : S'.2.2.1 (28, 0) = S.2.2.1 (28, 0) := oA 28 0 (by decide) (by decide) (by decide) (by decide)
  have keepL : ∀ (a D : ai_A) (s k c : Nat), a ≠ (13, 0) → jd_al S a s D k c → jd_al S' a s D k c := fun a D s k c ha hj => by
    refine jd_al_keep hj (oI a 1 ha) (m7 a 0 ha) (fun hD => ?_) cmono
    rcases hj.2.2.2.2.2 with z | ⟨z, -⟩
    · exact absurd z.1 hD
    · exact ⟨m11 D (by omega), (m10 D (by omega) (by omega) (by omega) (by omega)).2⟩
  have hrv : cv_rv (S'.2.2.1 B') (S'.2.2.1 F') (S'.2.2.1 E') (S'.2.2.1 (28, 0)) (made + nv) (mo_nb bd made (made + nv)) (mo_nc ch made (made + nv)) := by
    have r8 : cv_rv (S.2.2.1 B) (S.2.2.1 F) (S.2.2.1 E) (S.2.2.1 (28, 0)) made bd ch := r8
    refine ⟨fun v v0 v1 => ?_, fun v v0 v1 vf => ?_⟩
    · by_cases e : v < made
      · rw [(m8 v v0 e).1, r8.1 v v0 e]
        simp only [mo_nb]
        rw [if_neg (by omega)]
      · rw [(m9 v (by omega) v1).1]
        simp only [mo_nb]
        rw [if_pos (by omega)]
    · by_cases e : v < made
      · have vf' : bd v = mo_F := by
          simp only [mo_nb] at vf
          rw [if_neg (by omega)] at vf
          exact vf
        have ec : mo_nc ch made (made + nv) v = ch v := by
          simp only [mo_nc]
          rw [if_neg (by omega)]
        rw [(m8 v v0 e).2.1, (m8 v v0 e).2.2, xA, ec]
        exact r8.2 v v0 e vf'
      · have ec : mo_nc ch made (made + nv) v = [] := by
          simp only [mo_nc]
          rw [if_pos (by omega)]
        rw [(m9 v (by omega) v1).2.1, (m9 v (by omega) v1).2.2, ec]
        exact ⟨rfl, rfl⟩
  refine ⟨⟨m1, m2, ?_, ⟨m4, by omega, m6⟩, ?_, ?_, ?_, hrv, ?_, ?_, ?_, r12⟩, ?_, ?_, ⟨?_, ?_, ?_, ?_, h4.2.2.2.2⟩, ?_, ?_, ?_, ?_, ⟨?_, ?_, ?_⟩, ?_, ?_⟩
  · unfold cv_g
    rw [oA 19 0 (by decide) (by decide) (by decide) (by decide), oA 20 0 (by decide) (by decide) (by decide) (by decide), oA 21 0 (by decide) (by decide) (by decide) (by decide), oA 22 0 (by decide) (by decide) (by decide) (by decide)]
    exact r3
  · rw [oI _ _ (by decide)]; exact r5
  · rw [oA 40 0 (by decide) (by decide) (by decide) (by decide), oA 41 0 (by decide) (by decide) (by decide) (by decide), oI _ _ (by decide)]; exact r6
  · rw [oA 42 0 (by decide) (by decide) (by decide) (by decide), oI _ _ (by decide)]; exact r7
  · rw [oA 27 0 (by decide) (by decide) (by decide) (by decide)]; exact r9
  · rw [oA 26 0 (by decide) (by decide) (by decide) (by decide), oV _ (by decide) (by decide)]
    exact ⟨r10.1, fun i i0 i1 => by have := r10.2 i i0 i1; omega⟩
  · rw [oA 29 0 (by decide) (by decide) (by decide) (by decide), oA 30 0 (by decide) (by decide) (by decide) (by decide), oV _ (by decide) (by decide)]
    exact ⟨r11.1, fun i i0 i1 => by have := r11.2 i i0 i1; omega⟩
  · unfold ca_R
    rw [oI _ _ (by decide), oI _ _ (by decide), oA 43 0 (by decide) (by decide) (by decide) (by decide), oA 44 0 (by decide) (by decide) (by decide) (by decide), oA 45 0 (by decide) (by decide) (by decide) (by decide), oA 46 0 (by decide) (by decide) (by decide) (by decide)]
    exact h2
  · obtain ⟨p1, p2, p3, p4⟩ := h3
    refine ⟨?_, by rw [m7 _ _ (by decide)]; exact p2, by rw [oI _ _ (by decide)]; exact p3, fun i i0 i1 => ?_⟩
    · unfold cv_g
      rw [oA 19 0 (by decide) (by decide) (by decide) (by decide), oA 20 0 (by decide) (by decide) (by decide) (by decide), oA 21 0 (by decide) (by decide) (by decide) (by decide), oA 22 0 (by decide) (by decide) (by decide) (by decide)]
      exact p1
    · obtain ⟨a, x, q1, q2, q3⟩ := p4 i i0 i1
      refine ⟨a, x, by rw [m11 _ (by decide)]; exact q1, q2, ?_⟩
      have ha : ∀ j, S'.1 a j = S.1 a j := fun j => by
        rcases q2 with ⟨rfl, -⟩ | ⟨rfl, -⟩
        · exact oI _ j (by simp)
        · exact oI _ j (by simp)
      unfold cs_co
      rw [ha, ha, ha, oA 31 x (by decide) (by decide) (by decide) (by decide), oA 32 x (by decide) (by decide) (by decide) (by decide), oA 33 x (by decide) (by decide) (by decide) (by decide)]
      exact q3
  · exact keepL _ _ _ _ _ (by decide) h4.1
  · exact keepL _ _ _ _ _ (by decide) h4.2.1
  · rw [m13 49 (by decide)]; exact h4.2.2.1
  · rw [m13 52 (by decide)]; exact h4.2.2.2.1
  · rw [oI _ _ (by decide)]; exact h5
  · rw [m7 _ _ (by decide)]
    exact cs_td_eq (fun i _ j => ⟨oI _ _ (by simp), m7 _ _ (by simp)⟩) h6
  · rw [oI _ _ (by decide)]; exact h7
  · rw [oV _ (by decide) (by decide), oV _ (by decide) (by decide), oI (39, 0) _ (by decide)]
    refine cs_ck_keep cs _ _ h8 ⟨Int.le_refl _, Int.le_refl _, Int.le_refl _, Nat.le_refl _, show made ≤ made + nv by omega, Int.le_refl _, Int.le_refl _⟩ (fun i _ j => ⟨oI _ _ (by simp), m7 _ _ (by simp)⟩) (fun i _ j => ⟨oI _ _ (by simp), m7 _ _ (by simp)⟩) (fun kb kg ks V q1 q2 q3 q4 q5 q6 q7 q8 q9 hs => ?_)
    have q7 : V.1 ≤ made := q7
    unfold cs_sn cs_arr at hs ⊢
    simp only at hs ⊢
    obtain ⟨⟨s1, s2⟩, s3, s4⟩ := hs
    rw [oA 26 0 (by decide) (by decide) (by decide) (by decide), oA 29 0 (by decide) (by decide) (by decide) (by decide), oA 30 0 (by decide) (by decide) (by decide) (by decide), oA 45 0 (by decide) (by decide) (by decide) (by decide), oA 46 0 (by decide) (by decide) (by decide) (by decide), oV _ (by decide) (by decide), oV _ (by decide) (by decide), oI (39, 0) _ (by decide), xA]
    refine ⟨⟨fun v v0 v1 => ?_, fun v v0 v1 vf => ?_⟩, s3, s4⟩
    · rw [← s1 v v0 v1]
      exact cv_fr_at (m8 v v0 (by omega)).1 _
    · obtain ⟨t1, t2⟩ := s2 v v0 v1 vf
      have hun := cv_un_at (f := S.2.2.1 F) (e := S.2.2.1 E) (x := S.2.2.1 (28, 0)) (f' := S'.2.2.1 F') (e' := S'.2.2.1 E') (x' := S.2.2.1 (28, 0)) (on := S.2.2.1 (29, 0)) (gb := S.2.2.1 (30, 0)) (gc := S.1 (13, 0) 13) (S.1 (13, 0) 13 - kg).toNat
      rw [(hun v).1 (m8 v v0 (by omega)).2.1, (hun v).2.1 (m8 v v0 (by omega)).2.2]
      refine ⟨mo_lnk_eq (fun c _ => (hun c).2.2 rfl) t1, t2⟩
  · rw [m5, h9.1]
  · rw [oV _ (by decide) (by decide)]; exact h9.2.1
  · rw [oI _ _ (by decide)]; exact h9.2.2
  · unfold cs_k at h10 ⊢
    rcases m15 with ⟨z1, z2⟩ | ⟨z1, z2, z3⟩
    · rw [z1, z2]; exact h10
    · rw [z3]
      simp only
      have hn0 : 3 ≤ n' - n := by
        have := r4.2.2
        omega
      omega
  · rcases m15 with ⟨z1, -⟩ | ⟨z1, -, -⟩
    · omega
    · omega
/-- (17, 0)'s own ints may change, but those that are told of -/
theorem cs_R_own {S S' : ty_S} {P : mo_P} {K : Nat × Nat} {th : Nat} {M : mo_M} {ps : List (Int × Int)} {wk : List Int} {fl : Bool} {B F E : ai_A} {n : Nat} {D1 : ai_A} {n1 c1 : Nat} {D2 : ai_A} {n2 c2 u W : Nat}
    (h : cs_R S P K th M ps wk fl B F E n D1 n1 c1 D2 n2 c2 u W) (hS : ty_st S') (e3 : S'.2.2 = S.2.2) (oI : ∀ b j, ¬ (b = (17, 0) ∧ (j = 14 ∨ j = 15)) → S'.1 b j = S.1 b j) (oR : ∀ b j, ¬ (b = (17, 0) ∧ j = 13) → S'.2.1 b j = S.2.1 b j) : cs_R S' P K th M ps wk fl B F E n D1 n1 c1 D2 n2 c2 u W := by
  obtain ⟨st, came, sl, al, ar, ⟨made, bd, ch, ns, dn, an, aw⟩, todo, cs, ans⟩ := M
  obtain ⟨h1, h2, h3, h4, h5, h6, h7, h8, h9, h10, h11⟩ := h
  obtain ⟨r1, r2, r3, r4, r5, r6, r7, r8, r9, r10, r11, r12⟩ := h1
  have nI : ∀ b j, b ≠ (17, 0) → S'.1 b j = S.1 b j := fun b j hb => oI b j (fun z => hb z.1)
  have nR : ∀ b j, b ≠ (17, 0) → S'.2.1 b j = S.2.1 b j := fun b j hb => oR b j (fun z => hb z.1)
  have keepL : ∀ (a D : ai_A) (s k c : Nat), a ≠ (17, 0) → jd_al S a s D k c → jd_al S' a s D k c := fun a D s k c ha hj => jd_al_keep hj (nI a 1 ha) (nR a 0 ha) (fun _ => by rw [e3]; exact ⟨rfl, rfl⟩) (fun s => by rw [e3]; exact Nat.le_refl _)
  have eA : cs_arr S' B F E = cs_arr S B F E := by
    unfold cs_arr
    rw [e3, nI _ _ (by decide), nI _ _ (by decide), nI _ _ (by decide)]
  refine ⟨⟨hS, ?_, ?_, ?_, ?_, ?_, ?_, ?_, ?_, ?_, ?_, r12⟩, ?_, ?_, ⟨keepL _ _ _ _ _ (by decide) h4.1, keepL _ _ _ _ _ (by decide) h4.2.1, by rw [e3]; exact h4.2.2.1, by rw [e3]; exact h4.2.2.2.1, h4.2.2.2.2⟩, ?_, ?_, ?_, ?_, ⟨?_, ?_, ?_⟩, ?_, h11⟩
  · unfold cv_sh
    rw [e3, nR _ _ (by decide), nR _ _ (by decide), nR _ _ (by decide)]
    exact r2
  · unfold cv_g; rw [e3]; exact r3
  · rw [nI _ _ (by decide)]; exact r4
  · rw [nI _ _ (by decide)]; exact r5
  · rw [e3, nI _ _ (by decide)]; exact r6
  · rw [e3, nI _ _ (by decide)]; exact r7
  · rw [e3]; exact r8
  · rw [e3]; exact r9
  · rw [e3, nI _ _ (by decide)]; exact r10
  · rw [e3, nI _ _ (by decide)]; exact r11
  · unfold ca_R
    rw [e3, nI _ _ (by decide), nI _ _ (by decide)]
    exact h2
  · obtain ⟨p1, p2, p3, p4⟩ := h3
    refine ⟨by unfold cv_g; rw [e3]; exact p1, by rw [oR _ _ (by decide)]; exact p2, by rw [oI _ _ (by decide)]; exact p3, fun i i0 i1 => ?_⟩
    obtain ⟨a, x, q1, q2, q3⟩ := p4 i i0 i1
    refine ⟨a, x, by rw [e3]; exact q1, q2, ?_⟩
    have ha : ∀ j, S'.1 a j = S.1 a j := fun j => by
      rcases q2 with ⟨rfl, -⟩ | ⟨rfl, -⟩
      · exact nI _ j (by simp)
      · exact nI _ j (by simp)
    unfold cs_co
    rw [ha, ha, ha, e3]
    exact q3
  · rw [oI _ _ (by decide)]; exact h5
  · rw [oR _ _ (by decide)]
    exact cs_td_eq (fun i _ j => ⟨nI _ _ (by simp), nR _ _ (by simp)⟩) h6
  · rw [oI _ _ (by decide)]; exact h7
  · rw [eA, nI _ _ (by decide), nI _ _ (by decide), nI _ _ (by decide)]
    exact cs_ck_keep cs _ _ h8 ⟨Int.le_refl _, Int.le_refl _, Int.le_refl _, Nat.le_refl _, Int.le_refl _, Int.le_refl _, Int.le_refl _⟩ (fun i _ j => ⟨nI _ _ (by simp), nR _ _ (by simp)⟩) (fun i _ j => ⟨nI _ _ (by simp), nR _ _ (by simp)⟩) (fun _ _ _ _ _ _ _ _ _ _ _ _ _ z => z)
  · rw [nI _ _ (by decide)]; exact h9.1
  · rw [nI _ _ (by decide)]; exact h9.2.1
  · rw [oI _ _ (by decide)]; exact h9.2.2
  · unfold cs_k; rw [e3]; exact h10
/-- other pairs -/
theorem cs_R_pairs {S S' : ty_S} {P : mo_P} {K : Nat × Nat} {th : Nat} {st came : Int} {sl al ar : Int → Int} {made : Int} {bd : Int → Int} {ch : Int → List Int} {ns : Int} {dn : List Int} {an : Int} {aw : Int → Bool} {todo : List mo_Go} {cs : List mo_Ch} {ans : Int} {ps ps' : List (Int × Int)} {wk wk' : List Int} {fl fl' : Bool} {B F E : ai_A} {n : Nat} {D1 : ai_A} {n1 c1 : Nat} {D2 : ai_A} {n2 c2 u W : Nat}
    (h : cs_R S P K th (st, came, sl, al, ar, (made, bd, ch, ns, dn, an, aw), todo, cs, ans) ps wk fl B F E n D1 n1 c1 D2 n2 c2 u W) (hR : cp_R S' B F E n P.1 made ns sl st st (ps', bd, ch, wk', fl')) (e2 : S'.2.1 = S.2.1) (e3 : S'.2.2.2 = S.2.2.2) (oI : ∀ b j, b ≠ (38, 0) → S'.1 b j = S.1 b j) (oA : ∀ b, b ≠ (40, 0) → b ≠ (41, 0) → S'.2.2.1 b = S.2.2.1 b) :
    cs_R S' P K th (st, came, sl, al, ar, (made, bd, ch, ns, dn, an, aw), todo, cs, ans) ps' wk' fl' B F E n D1 n1 c1 D2 n2 c2 u W := by
  obtain ⟨h1, h2, h3, h4, h5, h6, h7, h8, h9, h10, h11⟩ := h
  have r2 := h1.2.1
  have keepL : ∀ (a D : ai_A) (s k c : Nat), a ≠ (38, 0) → jd_al S a s D k c → jd_al S' a s D k c := fun a D s k c ha hj => jd_al_keep hj (oI a 1 ha) (by rw [e2]) (fun _ => by rw [e3]; exact ⟨rfl, rfl⟩) (fun s => by rw [e3]; exact Nat.le_refl _)
  have n40 := (cv_ne r2 (s := 40) (i := 0) (by decide)).1
  have n41 := (cv_ne r2 (s := 41) (i := 0) (by decide)).1
  have sA : ∀ s i : Nat, s ≠ 40 → s ≠ 41 → S'.2.2.1 (s, i) = S.2.2.1 (s, i) := fun s i a b => oA _ (fun z => a (congrArg Prod.fst z)) (fun z => b (congrArg Prod.fst z))
  have eA : cs_arr S' B F E = cs_arr S B F E := by
    unfold cs_arr
    rw [oA B n40.1 n41.1, oA F n40.2.1 n41.2.1, oA E n40.2.2 n41.2.2, sA 26 0 (by decide) (by decide), sA 28 0 (by decide) (by decide), sA 29 0 (by decide) (by decide), sA 30 0 (by decide) (by decide), sA 45 0 (by decide) (by decide), sA 46 0 (by decide) (by decide), oI _ _ (by decide), oI _ _ (by decide), oI _ _ (by decide)]
  refine ⟨hR, ?_, ?_, ⟨keepL _ _ _ _ _ (by decide) h4.1, keepL _ _ _ _ _ (by decide) h4.2.1, by rw [e3]; exact h4.2.2.1, by rw [e3]; exact h4.2.2.2.1, h4.2.2.2.2⟩, ?_, ?_, ?_, ?_, ⟨?_, ?_, ?_⟩, ?_, h11⟩
  · unfold ca_R
    rw [oI _ _ (by decide), oI _ _ (by decide), sA 43 0 (by decide) (by decide), sA 44 0 (by decide) (by decide), sA 45 0 (by decide) (by decide), sA 46 0 (by decide) (by decide)]
    exact h2
  · obtain ⟨p1, p2, p3, p4⟩ := h3
    refine ⟨hR.2.2.1, by rw [e2]; exact p2, by rw [oI _ _ (by decide)]; exact p3, fun i i0 i1 => ?_⟩
    obtain ⟨a, x, q1, q2, q3⟩ := p4 i i0 i1
    refine ⟨a, x, by rw [e3]; exact q1, q2, ?_⟩
    have ha : ∀ j, S'.1 a j = S.1 a j := fun j => by
      rcases q2 with ⟨rfl, -⟩ | ⟨rfl, -⟩
      · exact oI _ j (by simp)
      · exact oI _ j (by simp)
    unfold cs_co
    rw [ha, ha, ha, sA 31 x (by decide) (by decide), sA 32 x (by decide) (by decide), sA 33 x (by decide) (by decide)]
    exact q3
  · rw [oI _ _ (by decide)]; exact h5
  · rw [e2]
    exact cs_td_eq (fun i _ j => ⟨oI _ _ (by simp), by rw [e2]⟩) h6
  · rw [oI _ _ (by decide)]; exact h7
  · rw [eA, oI _ _ (by decide), oI _ _ (by decide), oI _ _ (by decide)]
    exact cs_ck_keep cs _ _ h8 ⟨Int.le_refl _, Int.le_refl _, Int.le_refl _, Nat.le_refl _, Int.le_refl _, Int.le_refl _, Int.le_refl _⟩ (fun i _ j => ⟨oI _ _ (by simp), by rw [e2]⟩) (fun i _ j => ⟨oI _ _ (by simp), by rw [e2]⟩) (fun _ _ _ _ _ _ _ _ _ _ _ _ _ z => z)
  · rw [oI _ _ (by decide)]; exact h9.1
  · rw [oI _ _ (by decide)]; exact h9.2.1
  · rw [oI _ _ (by decide)]; exact h9.2.2
  · unfold cs_k; rw [e3]; exact h10
