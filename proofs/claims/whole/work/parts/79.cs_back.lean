/-! Back to a choice. -/
/-- goals and choices change, the rest stays -/
theorem cs_R_gen {S S' : ty_S} {P : mo_P} {K : Nat × Nat} {th : Nat} {st came : Int} {sl al ar : Int → Int} {made : Int} {bd : Int → Int} {ch : Int → List Int} {ns : Int} {dn : List Int} {an : Int} {aw : Int → Bool} {todo : List mo_Go} {cs : List mo_Ch} {ans : Int} {ps : List (Int × Int)} {wk : List Int} {fl : Bool} {B F E : ai_A} {n : Nat} {D1 : ai_A} {n1 c1 : Nat} {D2 : ai_A} {n2 c2 u W : Nat}
    (h : cs_R S P K th (st, came, sl, al, ar, (made, bd, ch, ns, dn, an, aw), todo, cs, ans) ps wk fl B F E n D1 n1 c1 D2 n2 c2 u W) (hS : ty_st S') (e3 : S'.2.2 = S.2.2) (oI : ∀ b j, b ≠ (17, 0) → b.1 ≠ 52 → S'.1 b j = S.1 b j) (oR : ∀ b j, b ≠ (17, 0) → S'.2.1 b j = S.2.1 b j) (k1 : S'.2.1 (17, 0) 5 = S.2.1 (17, 0) 5) (k2 : S'.1 (17, 0) 6 = S.1 (17, 0) 6) {todo' : List mo_Go} {cs' : List mo_Ch} {ans' : Int} {u' W' : Nat} (k3 : S'.1 (17, 0) 12 = ans')
    (n5 : S'.1 (17, 0) 8 = u' ∧ u' ≤ n1 ∧ (u' : Int) ≤ 24 + 524 * st ∧ n1 ≤ 262024 ∧ W' ≤ u' ∧ (cs' ≠ [] → (W' : Int) + 524 ≤ 24 + 524 * st)) (n6 : cs_td S' u' (S'.2.1 (17, 0) 9) todo') (n7 : S'.1 (17, 0) 11 = cs'.length ∧ cs'.length ≤ n2 ∧ (cs'.length : Int) ≤ st ∧ n2 ≤ 500) (n8 : cs_ck S' (cs_arr S B F E) (S.1 (13, 0) 7, S.1 (13, 0) 13, S.1 (39, 0) 7, W', made, ns, an) cs') :
    cs_R S' P K th (st, came, sl, al, ar, (made, bd, ch, ns, dn, an, aw), todo', cs', ans') ps wk fl B F E n D1 n1 c1 D2 n2 c2 u' W' := by
  obtain ⟨h1, h2, h3, h4, h5, h6, h7, h8, h9, h10, h11⟩ := h
  obtain ⟨r1, r2, r3, r4, r5, r6, r7, r8, r9, r10, r11, r12⟩ := h1
  have nI : ∀ b j, b ≠ (17, 0) → b.1 ≠ 52 → S'.1 b j = S.1 b j := oI
  have nR := oR
  have keepL : ∀ (a D : ai_A) (s k c : Nat), a ≠ (17, 0) → a.1 ≠ 52 → jd_al S a s D k c → jd_al S' a s D k c := fun a D s k c ha ha2 hj => jd_al_keep hj (nI a 1 ha ha2) (nR a 0 ha) (fun _ => by rw [e3]; exact ⟨rfl, rfl⟩) (fun s => by rw [e3]; exact Nat.le_refl _)
  have eA : cs_arr S' B F E = cs_arr S B F E := by
    unfold cs_arr
    rw [e3, nI _ _ (by decide) (by decide), nI _ _ (by decide) (by decide), nI _ _ (by decide) (by decide)]
  refine ⟨⟨hS, ?_, ?_, ?_, ?_, ?_, ?_, ?_, ?_, ?_, ?_, r12⟩, ?_, ?_, ⟨keepL _ _ _ _ _ (by decide) (by decide) h4.1, keepL _ _ _ _ _ (by decide) (by decide) h4.2.1, by rw [e3]; exact h4.2.2.1, by rw [e3]; exact h4.2.2.2.1, h4.2.2.2.2⟩, n5, n6, n7, ?_, ⟨?_, ?_, k3⟩, ?_, h11⟩
  · unfold cv_sh
    rw [e3, nR _ _ (by decide), nR _ _ (by decide), nR _ _ (by decide)]
    exact r2
  · unfold cv_g; rw [e3]; exact r3
  · rw [nI _ _ (by decide) (by decide)]; exact r4
  · rw [nI _ _ (by decide) (by decide)]; exact r5
  · rw [e3, nI _ _ (by decide) (by decide)]; exact r6
  · rw [e3, nI _ _ (by decide) (by decide)]; exact r7
  · rw [e3]; exact r8
  · rw [e3]; exact r9
  · rw [e3, nI _ _ (by decide) (by decide)]; exact r10
  · rw [e3, nI _ _ (by decide) (by decide)]; exact r11
  · unfold ca_R
    rw [e3, nI _ _ (by decide) (by decide), nI _ _ (by decide) (by decide)]
    exact h2
  · obtain ⟨p1, p2, p3, p4⟩ := h3
    refine ⟨by unfold cv_g; rw [e3]; exact p1, by rw [k1]; exact p2, by rw [k2]; exact p3, fun i i0 i1 => ?_⟩
    obtain ⟨a, x, q1, q2, q3⟩ := p4 i i0 i1
    refine ⟨a, x, by rw [e3]; exact q1, q2, ?_⟩
    have ha : ∀ j, S'.1 a j = S.1 a j := fun j => by
      rcases q2 with ⟨rfl, -⟩ | ⟨rfl, -⟩
      · exact nI _ j (by simp) (by simp)
      · exact nI _ j (by simp) (by simp)
    unfold cs_co
    rw [ha, ha, ha, e3]
    exact q3
  · rw [eA, nI _ _ (by decide) (by decide), nI _ _ (by decide) (by decide), nI _ _ (by decide) (by decide)]
    exact n8
  · rw [nI _ _ (by decide) (by decide)]; exact h9.1
  · rw [nI _ _ (by decide) (by decide)]; exact h9.2.1
  · unfold cs_k; rw [e3]; exact h10
theorem cs_ck_mono {S : ty_S} {A : cs_A} {cs : List mo_Ch} {l l' : cs_l} (h : cs_ck S A l cs) (hl : l.1 ≤ l'.1 ∧ l.2.1 ≤ l'.2.1 ∧ l.2.2.1 ≤ l'.2.2.1 ∧ l.2.2.2.1 ≤ l'.2.2.2.1 ∧ l.2.2.2.2.1 ≤ l'.2.2.2.2.1 ∧ l.2.2.2.2.2.1 ≤ l'.2.2.2.2.2.1 ∧ l.2.2.2.2.2.2 ≤ l'.2.2.2.2.2.2) : cs_ck S A l' cs :=
  cs_ck_keep cs l l' h hl (fun _ _ _ => ⟨rfl, rfl⟩) (fun _ _ _ => ⟨rfl, rfl⟩) (fun _ _ _ _ _ _ _ _ _ _ _ _ _ z => z)
theorem cs_ck_drop {S : ty_S} {A : cs_A} : ∀ (k : Nat) (cs : List mo_Ch) (l : cs_l), cs_ck S A l cs → cs_ck S A l (cs.drop k)
  | 0, _, _, h => h
  | _ + 1, [], _, _ => trivial
  | k + 1, (t, i, todo, V) :: cs, l, h => by
    obtain ⟨kb, kg, ks, u, a1, a2, a3, a4, a5, a6⟩ := h
    exact cs_ck_drop k cs l (cs_ck_mono a6 ⟨a1.2.1, a1.2.2.2.1, a1.2.2.2.2.2.1, a1.2.2.2.2.2.2, a2.2.1, a2.2.2.2.1, a2.2.2.2.2.2⟩)
/-- fewer choices -/
theorem cs_R_cut {S : ty_S} {P : mo_P} {K : Nat × Nat} {th : Nat} {st came : Int} {sl al ar : Int → Int} {made : Int} {bd : Int → Int} {ch : Int → List Int} {ns : Int} {dn : List Int} {an : Int} {aw : Int → Bool} {todo : List mo_Go} {cs : List mo_Ch} {ans : Int} {ps : List (Int × Int)} {wk : List Int} {fl : Bool} {B F E : ai_A} {n : Nat} {D1 : ai_A} {n1 c1 : Nat} {D2 : ai_A} {n2 c2 u W : Nat}
    (h : cs_R S P K th (st, came, sl, al, ar, (made, bd, ch, ns, dn, an, aw), todo, cs, ans) ps wk fl B F E n D1 n1 c1 D2 n2 c2 u W) (k : Nat) {z : Int} (hz : z = (cs.drop k).length) : cs_R (ty_sI S (17, 0) 11 z) P K th (st, came, sl, al, ar, (made, bd, ch, ns, dn, an, aw), todo, cs.drop k, ans) ps wk fl B F E n D1 n1 c1 D2 n2 c2 u W := by
  have h0 := h
  obtain ⟨h1, h2, h3, h4, h5, h6, h7, h8, h9, h10, h11⟩ := h
  have eI : ∀ b j, (ty_sI S (17, 0) 11 z).1 b j = if b = (17, 0) ∧ j = 11 then z else S.1 b j := fun _ _ => rfl
  have nI : ∀ b j, b ≠ (17, 0) → (ty_sI S (17, 0) 11 z).1 b j = S.1 b j := fun b j hb => if_neg (fun w => hb w.1)
  have sI : ∀ j, j ≠ 11 → (ty_sI S (17, 0) 11 z).1 (17, 0) j = S.1 (17, 0) j := fun j hj => if_neg (fun w => hj w.2)
  refine cs_R_gen (S' := ty_sI S (17, 0) 11 z) h0 h1.1 rfl (fun b j hb _ => nI b j hb) (fun _ _ _ => rfl) rfl (sI _ (by decide)) (by rw [sI _ (by decide)]; exact h9.2.2) ?_ ?_ ⟨?_, ?_, ?_, h7.2.2.2⟩ ?_
  · rw [sI _ (by decide)]
    refine ⟨h5.1, h5.2.1, h5.2.2.1, h5.2.2.2.1, h5.2.2.2.2.1, fun hne => h5.2.2.2.2.2 (fun e => hne ?_)⟩
    rw [e]
    exact List.drop_nil
  · exact cs_td_eq (fun i _ j => ⟨nI _ _ (by simp), rfl⟩) h6
  · rw [eI, if_pos ⟨rfl, rfl⟩, hz]
  · rw [List.length_drop]; omega
  · rw [List.length_drop]; omega
  · refine cs_ck_keep _ _ _ (cs_ck_drop k cs _ h8) ⟨Int.le_refl _, Int.le_refl _, Int.le_refl _, Nat.le_refl _, Int.le_refl _, Int.le_refl _, Int.le_refl _⟩ (fun i _ j => ⟨nI _ _ (by simp), rfl⟩) (fun i _ j => ⟨nI _ _ (by simp), rfl⟩) (fun _ _ _ _ _ _ _ _ _ _ _ _ _ z => z)
/-- the newest choice's next clause -/
theorem cs_R_clause {S : ty_S} {P : mo_P} {K : Nat × Nat} {th : Nat} {st came : Int} {sl al ar : Int → Int} {made : Int} {bd : Int → Int} {ch : Int → List Int} {ns : Int} {dn : List Int} {an : Int} {aw : Int → Bool} {todo : List mo_Go} {cs : List mo_Ch} {ans : Int} {ps : List (Int × Int)} {wk : List Int} {fl : Bool} {B F E : ai_A} {n : Nat} {D1 : ai_A} {n1 c1 : Nat} {D2 : ai_A} {n2 c2 u W : Nat} {t i : Int} {td : List mo_Go} {V : mo_V}
    (h : cs_R S P K th (st, came, sl, al, ar, (made, bd, ch, ns, dn, an, aw), todo, (t, i, td, V) :: cs, ans) ps wk fl B F E n D1 n1 c1 D2 n2 c2 u W) {z : Int} : cs_R (ty_sI S (52, cs.length) 1 z) P K th (st, came, sl, al, ar, (made, bd, ch, ns, dn, an, aw), todo, (t, z, td, V) :: cs, ans) ps wk fl B F E n D1 n1 c1 D2 n2 c2 u W := by
  have h0 := h
  obtain ⟨h1, h2, h3, h4, h5, h6, h7, h8, h9, h10, h11⟩ := h
  have nI : ∀ b j, b.1 ≠ 52 → (ty_sI S (52, cs.length) 1 z).1 b j = S.1 b j := fun b j hb => if_neg (fun w => hb (by rw [w.1]))
  have cI : ∀ j, j ≠ 1 → (ty_sI S (52, cs.length) 1 z).1 (52, cs.length) j = S.1 (52, cs.length) j := fun j hj => if_neg (fun w => hj w.2)
  have zI : (ty_sI S (52, cs.length) 1 z).1 (52, cs.length) 1 = z := by simp [ty_sI]
  have oI : ∀ i j, i < cs.length → (ty_sI S (52, cs.length) 1 z).1 (52, i) j = S.1 (52, i) j := fun i j hi => if_neg (fun w => by have := congrArg Prod.snd w.1; simp only at this; omega)
  refine cs_R_gen (S' := ty_sI S (52, cs.length) 1 z) h0 h1.1 rfl (fun b j _ hb => nI b j hb) (fun _ _ _ => rfl) rfl (nI _ _ (by decide)) (by rw [nI _ _ (by decide)]; exact h9.2.2) ⟨?_, h5.2.1, h5.2.2.1, h5.2.2.2.1, h5.2.2.2.2.1, fun _ => h5.2.2.2.2.2 (by simp)⟩ ?_ ⟨?_, h7.2⟩ ?_
  · rw [nI _ _ (by decide)]; exact h5.1
  · exact cs_td_eq (fun i _ j => ⟨nI _ _ (by simp), rfl⟩) h6
  · rw [nI _ _ (by decide)]; exact h7.1
  · obtain ⟨kb, kg, ks, u', a1, a2, a3, a4, a5, a6⟩ := h8
    refine ⟨kb, kg, ks, u', a1, a2, ?_, cs_td_eq (fun i _ j => ⟨nI _ _ (by simp), rfl⟩) a4, a5, ?_⟩
    · rw [cI _ (by decide), zI, cI _ (by decide), cI _ (by decide), cI _ (by decide), cI _ (by decide), cI _ (by decide), cI _ (by decide), cI _ (by decide)]
      exact ⟨a3.1, rfl, a3.2.2⟩
    · exact cs_ck_keep cs _ _ a6 ⟨Int.le_refl _, Int.le_refl _, Int.le_refl _, Nat.le_refl _, Int.le_refl _, Int.le_refl _, Int.le_refl _⟩ (fun i hi j => ⟨oI _ _ hi, rfl⟩) (fun i _ j => ⟨nI _ _ (by simp), rfl⟩) (fun _ _ _ _ _ _ _ _ _ _ _ _ _ z => z)
/-- the rows taken back to kb, kg, ks -/
def cs_un (A : cs_A) (kb kg ks : Int) : cs_A := ((cv_fr A.1.1 A.1.2.1 kb (A.1.2.2 - kb).toNat, A.1.2.1, kb), ((cv_un A.2.1.1 A.2.1.2.1 A.2.1.2.2.1 A.2.1.2.2.2.1 A.2.1.2.2.2.2.1 A.2.1.2.2.2.2.2 (A.2.1.2.2.2.2.2 - kg).toNat).1, (cv_un A.2.1.1 A.2.1.2.1 A.2.1.2.2.1 A.2.1.2.2.2.1 A.2.1.2.2.2.2.1 A.2.1.2.2.2.2.2 (A.2.1.2.2.2.2.2 - kg).toNat).2.1, (cv_un A.2.1.1 A.2.1.2.1 A.2.1.2.2.1 A.2.1.2.2.2.1 A.2.1.2.2.2.2.1 A.2.1.2.2.2.2.2 (A.2.1.2.2.2.2.2 - kg).toNat).2.2, A.2.1.2.2.2.1, A.2.1.2.2.2.2.1, kg), ca_sw A.2.2.1 A.2.2.2.1 ks (A.2.2.2.2 - ks).toNat, A.2.2.2.1, ks)
theorem cs_sn_un {A : cs_A} {kb kg ks kb' kg' ks' : Int} {V : mo_V} (h1 : kb' ≤ kb ∧ kb ≤ A.1.2.2) (h2 : kg' ≤ kg ∧ kg ≤ A.2.1.2.2.2.2.2) (h3 : ks' ≤ ks ∧ ks ≤ A.2.2.2.2) (h : cs_sn A kb' kg' ks' V) : cs_sn (cs_un A kb kg ks) kb' kg' ks' V := by
  obtain ⟨⟨b, ones, bc⟩, ⟨f, e, x, on, gb, gc⟩, w, sd, sc⟩ := A
  simp only at h1 h2 h3
  unfold cs_sn at h ⊢
  unfold cs_un
  simp only at h ⊢
  have e1 : cv_fr (cv_fr b ones kb (bc - kb).toNat) ones kb' (kb - kb').toNat = cv_fr b ones kb' (bc - kb').toNat := by
    have := cv_fr_split (f := b) (ones := ones) (kept := kb') (m1 := (kb - kb').toNat) (bc - kb).toNat
    rw [show kb' + ((kb - kb').toNat : Int) = kb by omega] at this
    rw [← this, show (kb - kb').toNat + (bc - kb).toNat = (bc - kb').toNat by omega]
  have e3 : ca_sw (ca_sw w sd ks (sc - ks).toNat) sd ks' (ks - ks').toNat = ca_sw w sd ks' (sc - ks').toNat := by
    have := ca_sw_split (f := w) (on := sd) (kept := ks') (m1 := (ks - ks').toNat) (sc - ks).toNat
    rw [show ks' + ((ks - ks').toNat : Int) = ks by omega] at this
    rw [← this, show (ks - ks').toNat + (sc - ks).toNat = (sc - ks').toNat by omega]
  have e2 : cv_un (cv_un f e x on gb gc (gc - kg).toNat).1 (cv_un f e x on gb gc (gc - kg).toNat).2.1 (cv_un f e x on gb gc (gc - kg).toNat).2.2 on gb kg (kg - kg').toNat = cv_un f e x on gb gc (gc - kg').toNat := by
    have := cv_un_split (on := on) (gb := gb) (gc - kg).toNat (kg - kg').toNat f e x gc
    rw [show gc - ((gc - kg).toNat : Int) = kg by omega] at this
    rw [← this, show (gc - kg).toNat + (kg - kg').toNat = (gc - kg').toNat by omega]
  rw [e1, e2, e3]
  exact h
/-- S1 is S taken back to the choice (52, k) -/
def cs_bk (S S1 : ty_S) (B F E : ai_A) (kb kg ks ns made an uc : Int) (k : Nat) : Prop := S1.2.2.2 = S.2.2.2 ∧ (∀ b j, b ≠ (17, 0) → S1.2.1 b j = S.2.1 b j) ∧ (∀ j, j ≠ 9 → S1.2.1 (17, 0) j = S.2.1 (17, 0) j) ∧ S1.2.1 (17, 0) 9 = S.2.1 (52, k) 2 ∧ cs_arr S1 B F E = cs_un (cs_arr S B F E) kb kg ks ∧
  (∀ b, b ≠ B → b ≠ F → b ≠ E → b ≠ (28, 0) → b ≠ (45, 0) → S1.2.2.1 b = S.2.2.1 b) ∧ (∀ b j, b ≠ (17, 0) → b ≠ (13, 0) → b ≠ (39, 0) → S1.1 b j = S.1 b j) ∧ (∀ j, j ≠ 8 → S1.1 (17, 0) j = S.1 (17, 0) j) ∧ S1.1 (17, 0) 8 = uc ∧ S1.1 (13, 0) 4 = made ∧ S1.1 (13, 0) 10 = ns ∧ S1.1 (39, 0) 5 = an ∧ S1.1 (13, 0) 5 = S.1 (13, 0) 5
theorem cs_R_back {S : ty_S} {P : mo_P} {K : Nat × Nat} {th : Nat} {st came : Int} {sl al ar : Int → Int} {V0 : mo_V} {made : Int} {bd : Int → Int} {ch : Int → List Int} {ns : Int} {dn : List Int} {an : Int} {aw : Int → Bool} {td todo : List mo_Go} {cs : List mo_Ch} {ans : Int} {ps : List (Int × Int)} {wk : List Int} {fl : Bool} {B F E : ai_A} {n : Nat} {D1 : ai_A} {n1 c1 : Nat} {D2 : ai_A} {n2 c2 u W : Nat} {t i : Int}
    (h : cs_R S P K th (st, came, sl, al, ar, V0, td, (t, i, todo, (made, bd, ch, ns, dn, an, aw)) :: cs, ans) ps wk fl B F E n D1 n1 c1 D2 n2 c2 u W) :
    ∃ (kb kg ks : Int) (uc : Nat), (0 ≤ kb ∧ kb ≤ S.1 (13, 0) 7 ∧ 0 ≤ kg ∧ kg ≤ S.1 (13, 0) 13 ∧ 0 ≤ ks ∧ ks ≤ S.1 (39, 0) 7) ∧ (0 ≤ made ∧ 0 ≤ ns ∧ 0 ≤ an ∧ (uc : Int) + 524 ≤ 24 + 524 * st) ∧
      (S.1 (52, cs.length) 0 = t ∧ S.1 (52, cs.length) 1 = i ∧ S.1 (52, cs.length) 3 = uc ∧ S.1 (52, cs.length) 4 = made ∧ S.1 (52, cs.length) 5 = kb ∧ S.1 (52, cs.length) 6 = ns ∧ S.1 (52, cs.length) 7 = kg ∧ S.1 (52, cs.length) 8 = an ∧ S.1 (52, cs.length) 9 = ks) ∧
      ∀ S1, ty_st S1 → cs_bk S S1 B F E kb kg ks ns made an uc cs.length → cs_R S1 P K th (st, came, sl, al, ar, (made, bd, ch, ns, dn, an, aw), todo, (t, i, todo, (made, bd, ch, ns, dn, an, aw)) :: cs, ans) ps wk fl B F E n D1 n1 c1 D2 n2 c2 uc uc := by
  obtain ⟨made0, bd0, ch0, ns0, dn0, an0, aw0⟩ := V0
  obtain ⟨h1, h2, h3, h4, h5, h6, h7, h8, h9, h10, h11⟩ := h
  obtain ⟨kb, kg, ks, uc, a1, a2, a3, a4, a5, a6⟩ := h8
  simp only at a1 a2 a3 a4 a5 a6
  have hWb := h5.2.2.2.2.2 (by simp)
  refine ⟨kb, kg, ks, uc, by omega, by omega, a3, fun S1 hS1 hb => ?_⟩
  obtain ⟨b1, b2, b3, b4, b5, b6, b7, b8, b9, b10, b11, b12, b13⟩ := hb
  obtain ⟨r1, r2, r3, r4, r5, r6, r7, r8, r9, r10, r11, r12⟩ := h1
  have oI : ∀ s i j : Nat, s ≠ 17 → s ≠ 13 → s ≠ 39 → S1.1 (s, i) j = S.1 (s, i) j := fun s i j q1 q2 q3 => b7 _ j (fun z => q1 (congrArg Prod.fst z)) (fun z => q2 (congrArg Prod.fst z)) (fun z => q3 (congrArg Prod.fst z))
  have oA : ∀ s i : Nat, s ≠ 23 → s ≠ 24 → s ≠ 25 → s ≠ 48 → s ≠ 28 → s ≠ 45 → S1.2.2.1 (s, i) = S.2.2.1 (s, i) := fun s i q1 q2 q3 q4 q5 q6 => by
    obtain ⟨-, m1, m2, m3⟩ := cv_ne r2 (s := s) (i := i) ⟨q1, q2, q3, q4⟩
    exact b6 _ m1 m2 m3 (fun z => q5 (congrArg Prod.fst z)) (fun z => q6 (congrArg Prod.fst z))
  have keepL : ∀ (s' i' : Nat) (D : ai_A) (s k c : Nat), s' ≠ 17 → s' ≠ 13 → s' ≠ 39 → jd_al S (s', i') s D k c → jd_al S1 (s', i') s D k c := fun s' i' D s k c q1 q2 q3 hj => jd_al_keep hj (oI s' i' 1 q1 q2 q3) (b2 _ 0 (fun z => q1 (congrArg Prod.fst z))) (fun _ => by rw [b1]; exact ⟨rfl, rfl⟩) (fun s => by rw [b1]; exact Nat.le_refl _)
  have e5 := b5
  unfold cs_arr cs_un at e5
  simp only [Prod.mk.injEq] at e5
  obtain ⟨⟨x1, x2, x3⟩, ⟨x4, x5, x6, x7, x8, x9⟩, x10, x11, x12⟩ := e5
  have snu := fun kb' kg' ks' V' (q1 : kb' ≤ kb) (q2 : kg' ≤ kg) (q3 : ks' ≤ ks) (hs : cs_sn (cs_arr S B F E) kb' kg' ks' V') => cs_sn_un (A := cs_arr S B F E) (kb := kb) (kg := kg) (ks := ks) ⟨q1, a1.2.1⟩ ⟨q2, a1.2.2.2.1⟩ ⟨q3, a1.2.2.2.2.2.1⟩ hs
  have sn0 := a5
  unfold cs_sn cs_arr at sn0
  simp only at sn0
  obtain ⟨s1, s2, s3⟩ := sn0
  refine ⟨⟨hS1, ?_, ?_, ⟨b10, a2.1, by omega⟩, ?_, ?_, ?_, ?_, ?_, ?_, ?_, by omega⟩, ⟨⟨b12, by have := h2.1.2; omega⟩, fun i i0 i1 => ?_, ?_⟩, ?_, ⟨keepL _ _ _ _ _ _ (by decide) (by decide) (by decide) h4.1, keepL _ _ _ _ _ _ (by decide) (by decide) (by decide) h4.2.1, by rw [b1]; exact h4.2.2.1, by rw [b1]; exact h4.2.2.2.1, h4.2.2.2.2⟩, ⟨b9, by omega, ?_, h5.2.2.2.1, Nat.le_refl _, fun _ => ?_⟩, ?_, ⟨by rw [b8 _ (by decide)]; exact h7.1, h7.2⟩, ?_, ⟨by rw [b13]; exact h9.1, b11, by rw [b8 _ (by decide)]; exact h9.2.2⟩, ?_, h11⟩
  · unfold cv_sh
    rw [b1, b2 _ _ (by decide), b2 _ _ (by decide), b2 _ _ (by decide)]
    exact r2
  · unfold cv_g
    rw [oA 19 0 (by decide) (by decide) (by decide) (by decide) (by decide) (by decide), oA 20 0 (by decide) (by decide) (by decide) (by decide) (by decide) (by decide), oA 21 0 (by decide) (by decide) (by decide) (by decide) (by decide) (by decide), oA 22 0 (by decide) (by decide) (by decide) (by decide) (by decide) (by decide)]
    exact r3
  · rw [oI _ _ _ (by decide) (by decide) (by decide)]; exact r5
  · rw [oA 40 0 (by decide) (by decide) (by decide) (by decide) (by decide) (by decide), oA 41 0 (by decide) (by decide) (by decide) (by decide) (by decide) (by decide), oI _ _ _ (by decide) (by decide) (by decide)]; exact r6
  · rw [oA 42 0 (by decide) (by decide) (by decide) (by decide) (by decide) (by decide), oI _ _ _ (by decide) (by decide) (by decide)]; exact r7
  · rw [x1, x4, x5, x6]
    exact s1
  · rw [oA 27 0 (by decide) (by decide) (by decide) (by decide) (by decide) (by decide)]
    exact fun e e0 e1 => r9 e e0 (by omega)
  · rw [x2, x3]
    exact ⟨⟨a1.1, by omega⟩, fun i i0 i1 => r10.2 i i0 (by omega)⟩
  · rw [x7, x8, x9]
    exact ⟨⟨a1.2.2.1, by omega⟩, fun i i0 i1 => r11.2 i i0 (by omega)⟩
  · rw [oA 43 0 (by decide) (by decide) (by decide) (by decide) (by decide) (by decide), oA 44 0 (by decide) (by decide) (by decide) (by decide) (by decide) (by decide), x10]
    have := h2.2.1 i i0 (by omega)
    exact ⟨this.1, this.2.1, s2 i i0 i1⟩
  · rw [x11, x12]
    exact ⟨⟨a1.2.2.2.2.1, by have := h2.2.2.1; omega⟩, fun i i0 i1 => h2.2.2.2 i i0 (by omega)⟩
  · obtain ⟨p1, p2, p3, p4⟩ := h3
    refine ⟨?_, by rw [b3 _ (by decide)]; exact p2, by rw [b8 _ (by decide)]; exact p3, fun i i0 i1 => ?_⟩
    · unfold cv_g
      rw [oA 19 0 (by decide) (by decide) (by decide) (by decide) (by decide) (by decide), oA 20 0 (by decide) (by decide) (by decide) (by decide) (by decide) (by decide), oA 21 0 (by decide) (by decide) (by decide) (by decide) (by decide) (by decide), oA 22 0 (by decide) (by decide) (by decide) (by decide) (by decide) (by decide)]
      exact p1
    · obtain ⟨a, x, q1, q2, q3⟩ := p4 i i0 i1
      refine ⟨a, x, by rw [b1]; exact q1, q2, ?_⟩
      have ha : ∀ j, S1.1 a j = S.1 a j := fun j => by
        rcases q2 with ⟨rfl, -⟩ | ⟨rfl, -⟩
        · exact oI _ _ j (by decide) (by decide) (by decide)
        · exact oI _ _ j (by decide) (by decide) (by decide)
      unfold cs_co
      rw [ha, ha, ha, oA 31 x (by decide) (by decide) (by decide) (by decide) (by decide) (by decide), oA 32 x (by decide) (by decide) (by decide) (by decide) (by decide) (by decide), oA 33 x (by decide) (by decide) (by decide) (by decide) (by decide) (by decide)]
      exact q3
  · have := h5.2.2.2.2.2 (by simp)
    omega
  · have := h5.2.2.2.2.2 (by simp)
    omega
  · rw [b4]
    exact cs_td_eq (fun i _ j => ⟨oI _ _ _ (by decide) (by decide) (by decide), b2 _ _ (by simp)⟩) a4
  · rw [b5, x3, x9, x12]
    refine ⟨kb, kg, ks, uc, ⟨a1.1, Int.le_refl _, a1.2.2.1, Int.le_refl _, a1.2.2.2.2.1, Int.le_refl _, Nat.le_refl _⟩, ⟨a2.1, Int.le_refl _, a2.2.2.1, Int.le_refl _, a2.2.2.2.2.1, Int.le_refl _⟩, ?_, ?_, snu kb kg ks _ (Int.le_refl _) (Int.le_refl _) (Int.le_refl _) a5, ?_⟩
    · have e := fun j => oI 52 cs.length j (by decide) (by decide) (by decide)
      rw [e, e, e, e, e, e, e, e, e]
      exact a3
    · rw [b2 _ _ (by simp)]
      exact cs_td_eq (fun i _ j => ⟨oI _ _ _ (by decide) (by decide) (by decide), b2 _ _ (by simp)⟩) a4
    · exact cs_ck_keep cs _ _ a6 ⟨Int.le_refl _, Int.le_refl _, Int.le_refl _, Nat.le_refl _, Int.le_refl _, Int.le_refl _, Int.le_refl _⟩ (fun i _ j => ⟨oI _ _ _ (by decide) (by decide) (by decide), b2 _ _ (by simp)⟩) (fun i _ j => ⟨oI _ _ _ (by decide) (by decide) (by decide), b2 _ _ (by simp)⟩) (fun kb' kg' ks' V' q1 q2 q3 q4 q5 q6 q7 q8 q9 hs => snu kb' kg' ks' V' q2 q4 q6 hs)
  · unfold cs_k
    rw [b1]
    exact h10
