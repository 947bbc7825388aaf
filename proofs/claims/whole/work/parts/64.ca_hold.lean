/-! The pairs that wait are tested. -/
theorem cv_fr_up {f ones : Int → Int} {kept v j : Int} : ∀ (m : Nat), cv_fr (fun i => if i = v then mo_F else f i) ones kept m j = if j = v then mo_F else cv_fr f ones kept m j
  | 0 => rfl
  | m + 1 => by
    show (if j = ones (kept + m) then mo_F else cv_fr (fun i => if i = v then mo_F else f i) ones kept m j) = if j = v then mo_F else if j = ones (kept + m) then mo_F else cv_fr f ones kept m j
    rw [cv_fr_up m]
    by_cases e1 : j = v
    · rw [if_pos e1, if_pos e1]; simp
    · rw [if_neg e1, if_neg e1]
theorem cv_fr_split {f ones : Int → Int} {kept : Int} {m1 : Nat} : ∀ (m2 : Nat), cv_fr f ones kept (m1 + m2) = cv_fr (cv_fr f ones (kept + m1) m2) ones kept m1
  | 0 => rfl
  | m2 + 1 => by
    funext j
    show (if j = ones (kept + ((m1 + m2 : Nat) : Int)) then mo_F else cv_fr f ones kept (m1 + m2) j) = cv_fr (fun i => if i = ones (kept + m1 + m2) then mo_F else cv_fr f ones (kept + m1) m2 i) ones kept m1 j
    rw [cv_fr_up, cv_fr_split m2, show kept + ((m1 + m2 : Nat) : Int) = kept + m1 + m2 by omega]
theorem mo_ur_steps {G : mo_G} (hw : mo_wf G) {made ns : Int} (hmade : made ≤ 100000) {tr : Bool} {dn : List Int} {st : Int} {p : Int × Int} {ps : List (Int × Int)} {bd : Int → Int} {ch : Int → List Int} {wk : List Int} {fl : Bool} (h0 : 0 ≤ st ∧ st ≤ 500) (hp : mo_po G made (p :: ps)) (hb : mo_bw G made bd) (hc : mo_cw made ns bd ch (dn ++ wk)) (h2 : (mo_ur G tr st (p :: ps, bd, ch, wk, fl)).1 ≠ 2) : st + 1 ≤ (mo_ur G tr st (p :: ps, bd, ch, wk, fl)).2.1 := by
  unfold mo_ur at h2 ⊢
  obtain ⟨m, hm⟩ : ∃ m : Nat, (501 - st).toNat = m + 1 := ⟨(500 - st).toNat, by omega⟩
  rw [hm] at h2 ⊢
  unfold mo_un at h2 ⊢
  by_cases e : 500 ≤ st
  · rw [if_pos e] at h2
    exact absurd rfl h2
  · rw [if_neg e]
    have hpp := hp p List.mem_cons_self
    have v1 := mo_val_isval hw hb (.inl hpp.1)
    have v2 := mo_val_isval hw hb (.inl hpp.2)
    cases hu : mo_u1 G tr (mo_val G bd p.1) (mo_val G bd p.2) ps bd ch wk fl with
    | none => exact Int.le_refl _
    | some u =>
      obtain ⟨ps', bd', ch', wk', fl'⟩ := u
      obtain ⟨i1, i2, i3, i4, i5⟩ := mo_u1_inv hw hmade hu v1 v2 hb hc (fun q hq => hp q (List.mem_cons_of_mem _ hq))
      exact (mo_un_inv hw hmade (tr := tr) m (st + 1) ps' bd' ch' wk' fl' (by omega) (by omega) i1 i2 i3).2.1.1
section CAH
variable {L : Nat} {xs : Nat → Int32} {S : ty_S} {B F E : ai_A} {n : Nat} {G : mo_G} {made ns st : Int} {sl : Int → Int}
/-- after a try all that was bound is free again -/
def ca_fr (S1 : ty_S) (B : ai_A) (bc : Int) : ty_S := ty_sI (ty_mA S1 B (cv_fr (S1.2.2.1 B) (S1.2.2.1 (26, 0)) bc (S1.1 (13, 0) 7 - bc).toNat)) (13, 0) 7 bc
theorem cp_R_test {ps0 ps1 : List (Int × Int)} {bd bd1 : Int → Int} {ch ch1 : Int → List Int} {wk wk1 : List Int} {fl fl1 : Bool} {S1 : ty_S} {st1 : Int} (hR : cp_R S B F E n G made ns sl st st (ps0, bd, ch, wk, fl)) (h1 : cp_R S1 B F E n G made ns sl st1 st1 (ps1, bd1, ch1, wk1, fl1)) (hf : cp_fm S S1 B F E) (ht : cp_tr S S1 F E) (hu : cp_ud S S1 B F E) (hst : st ≤ st1) :
    cp_R (ca_fr S1 B (S.1 (13, 0) 7)) B F E n G made ns sl st1 st1 (ps1, bd, ch, wk, fl) ∧ cp_fm S (ca_fr S1 B (S.1 (13, 0) 7)) B F E ∧ cp_ud S (ca_fr S1 B (S.1 (13, 0) 7)) B F E ∧ cp_tr S (ca_fr S1 B (S.1 (13, 0) 7)) F E := by
  obtain ⟨r1, r2, r3, r4, r5, r6, r7, r8, r9, r10, r11, r12⟩ := hR
  obtain ⟨q1, q2, q3, q4, q5, q6, q7, q8, q9, q10, q11, q12⟩ := h1
  obtain ⟨t1, t2, t3, t4, t5, t6, t7, t8⟩ := ht
  obtain ⟨f1, f2, f3, f4, f5, f6, f7⟩ := hf
  obtain ⟨u1, u2, u3, u4⟩ := hu
  generalize hT : ca_fr S1 B (S.1 (13, 0) 7) = T
  have e2 : T.2.1 = S1.2.1 := by rw [← hT]; rfl
  have e3 : T.2.2.2 = S1.2.2.2 := by rw [← hT]; rfl
  have i1 : ∀ b j, ¬ (b = (13, 0) ∧ j = 7) → T.1 b j = S1.1 b j := fun b j h => by rw [← hT]; exact if_neg h
  have i2 : T.1 (13, 0) 7 = S.1 (13, 0) 7 := by rw [← hT]; exact ty_sI_at
  have aB : T.2.2.1 B = S.2.2.1 B := by
    rw [← hT]
    show (ty_mA S1 B _).2.2.1 B = _
    rw [ty_mA_at, u3 _ r10.1.1 (Int.le_refl _), show (S.1 (13, 0) 7 - S.1 (13, 0) 7).toNat = 0 by omega]
    rfl
  have a6 : ∀ b, ¬ b = B → T.2.2.1 b = S1.2.2.1 b := fun b h => by rw [← hT]; exact if_neg h
  have oth : ∀ s : Nat, (s ≠ 23 ∧ s ≠ 24 ∧ s ≠ 25 ∧ s ≠ 48) → T.2.2.1 (s, 0) = S1.2.2.1 (s, 0) := fun s h => a6 _ (cv_ne r2 h).2.1
  have m := r2.2.2.2.2.1
  have aF : T.2.2.1 F = S.2.2.1 F := (a6 F (fun z => m.1 z.symm)).trans t1
  have aE : T.2.2.1 E = S.2.2.1 E := (a6 E (fun z => m.2.1 z.symm)).trans t2
  have aX : T.2.2.1 (28, 0) = S.2.2.1 (28, 0) := (oth 28 (by decide)).trans t3
  have aW : T.2.2.1 (42, 0) = S.2.2.1 (42, 0) := (oth 42 (by decide)).trans t6
  have iW : T.1 (38, 0) 7 = S.1 (38, 0) 7 := (i1 _ _ (by decide)).trans t8
  refine ⟨⟨?_, ?_, ?_, ?_, ?_, ?_, ?_, ?_, ?_, ?_, ?_, r12⟩, ⟨fun b j h1 h2 h3 => (i1 b j (fun z => h3 ⟨z.1, .inl z.2⟩)).trans (f1 b j h1 h2 h3), e2.trans f2, fun b a1 a2 a3 a4 a5 a7 a8 a9 a10 a11 => (a6 b a1).trans (f3 b a1 a2 a3 a4 a5 a7 a8 a9 a10 a11), by rw [e3]; exact f4, by rw [e3]; exact f5, by rw [e3]; exact f6, by rw [e3]; exact f7⟩, ⟨?_, ?_, fun k k0 k1 => ?_, fun k k0 k1 => ?_⟩, ⟨aF, aE, aX, (oth 29 (by decide)).trans t4, (oth 30 (by decide)).trans t5, aW, (i1 _ _ (by decide)).trans t7, iW⟩⟩
  · unfold ty_st; rw [e2, e3]; exact q1
  · unfold cv_sh; rw [e2, e3]; exact q2
  · unfold cv_g
    rw [oth 19 (by decide), oth 20 (by decide), oth 21 (by decide), oth 22 (by decide)]
    exact q3
  · rw [i1 _ _ (by decide)]; exact q4
  · rw [i1 _ _ (by decide)]; exact q5
  · rw [oth 40 (by decide), oth 41 (by decide), i1 _ _ (by decide)]; exact q6
  · rw [iW, aW]; exact r7
  · rw [aB, aF, aE, aX]; exact r8
  · rw [oth 27 (by decide)]; exact q9
  · rw [i2, oth 26 (by decide)]
    exact ⟨⟨r10.1.1, by omega⟩, fun i h0 h1 => q10.2 i h0 (by omega)⟩
  · rw [oth 29 (by decide), oth 30 (by decide), i1 _ _ (by decide)]; exact q11
  · rw [i2]; omega
  · rw [i1 _ _ (by decide)]; exact u2
  · rw [aB, oth 26 (by decide), i2]
    have h5 := u3 k k0 k1
    have h6 : (S1.1 (13, 0) 7 - k).toNat = (S.1 (13, 0) 7 - k).toNat + (S1.1 (13, 0) 7 - S.1 (13, 0) 7).toNat := by omega
    rw [h6, cv_fr_split] at h5
    have h7 : k + ((S.1 (13, 0) 7 - k).toNat : Nat) = S.1 (13, 0) 7 := by omega
    rw [h7, u3 _ r10.1.1 (Int.le_refl _), show (S.1 (13, 0) 7 - S.1 (13, 0) 7).toNat = 0 by omega] at h5
    exact h5
  · have h5 := u4 k k0 k1
    rw [a6 F (fun z => m.1 z.symm), a6 E (fun z => m.2.1 z.symm), oth 28 (by decide), oth 29 (by decide), oth 30 (by decide), i1 _ _ (by decide)]
    exact h5
/-- the rows of the pairs that stay different -/
def ca_R (S : ty_S) (an : Int) (al ar : Int → Int) (aw : Int → Bool) (k : Int) : Prop := (S.1 (39, 0) 5 = an ∧ 0 ≤ an ∧ an ≤ 500) ∧ (∀ i, 0 ≤ i → i < an → S.2.2.1 (43, 0) i = al i ∧ S.2.2.1 (44, 0) i = ar i ∧ S.2.2.1 (45, 0) i = if aw i = true then 1 else 0) ∧
  ((0 ≤ S.1 (39, 0) 7 ∧ S.1 (39, 0) 7 ≤ k) ∧ ∀ i, 0 ≤ i → i < S.1 (39, 0) 7 → 0 ≤ S.2.2.1 (46, 0) i ∧ S.2.2.1 (46, 0) i < 500)
/-- what can be taken back of them is the same -/
def ca_ud (S S' : ty_S) : Prop := S.1 (39, 0) 7 ≤ S'.1 (39, 0) 7 ∧ ∀ k, 0 ≤ k → k ≤ S.1 (39, 0) 7 → ca_sw (S'.2.2.1 (45, 0)) (S'.2.2.1 (46, 0)) k (S'.1 (39, 0) 7 - k).toNat = ca_sw (S.2.2.1 (45, 0)) (S.2.2.1 (46, 0)) k (S.1 (39, 0) 7 - k).toNat
theorem ca_ud.refl : ca_ud S S := ⟨Int.le_refl _, fun _ _ _ => rfl⟩
theorem ca_ud.trans {S1 S2 : ty_S} (h : ca_ud S S1) (g : ca_ud S1 S2) : ca_ud S S2 := ⟨Int.le_trans h.1 g.1, fun k a b => (g.2 k a (Int.le_trans b h.1)).trans (h.2 k a b)⟩
/-- while terms are made same these rows stand still -/
theorem ca_keep {S1 : ty_S} (hV : cv_sh S B F E n) (hf : cp_fm S S1 B F E) : (∀ s : Nat, (s = 43 ∨ s = 44 ∨ s = 45 ∨ s = 46) → S1.2.2.1 (s, 0) = S.2.2.1 (s, 0)) ∧ ∀ j, S1.1 (39, 0) j = S.1 (39, 0) j := by
  refine ⟨fun s hs => ?_, fun j => hf.1 _ _ (by decide) (by decide) (fun z => absurd z.1 (by decide))⟩
  have hne := (cv_ne hV (s := s) (i := 0) (by omega)).2
  refine hf.2.2.1 _ hne.1 hne.2.1 hne.2.2 ?_ ?_ ?_ ?_ ?_ ?_ ?_ <;> (intro z; have := congrArg Prod.fst z; simp only at this; omega)
theorem ca_R_keep {S1 : ty_S} (hV : cv_sh S B F E n) (hf : cp_fm S S1 B F E) {an k k1 : Int} {al ar : Int → Int} {aw : Int → Bool} (h : ca_R S an al ar aw k) (hk : k ≤ k1) : ca_R S1 an al ar aw k1 ∧ ca_ud S S1 := by
  obtain ⟨a1, a2⟩ := ca_keep hV hf
  obtain ⟨h1, h2, h3⟩ := h
  unfold ca_R ca_ud
  rw [a1 43 (by decide), a1 44 (by decide), a1 45 (by decide), a1 46 (by decide), a2, a2]
  exact ⟨⟨h1, h2, ⟨h3.1.1, by omega⟩, h3.2⟩, Int.le_refl _, fun _ _ _ => rfl⟩
/-- the whole of what hold leaves alone -/
def ca_fm (S S' : ty_S) (B F E : ai_A) : Prop := (∀ b j, b ≠ (37, 0) → b ≠ (38, 0) → b ≠ (39, 0) → ¬ (b = (13, 0) ∧ (j = 7 ∨ j = 13)) → S'.1 b j = S.1 b j) ∧ S'.2.1 = S.2.1 ∧
  (∀ b, b ≠ B → b ≠ F → b ≠ E → b ≠ (26, 0) → b ≠ (28, 0) → b ≠ (29, 0) → b ≠ (30, 0) → b ≠ (40, 0) → b ≠ (41, 0) → b ≠ (42, 0) → b ≠ (45, 0) → b ≠ (46, 0) → S'.2.2.1 b = S.2.2.1 b) ∧ S'.2.2.2.1 = S.2.2.2.1 ∧ S'.2.2.2.2.1 = S.2.2.2.2.1 ∧ S'.2.2.2.2.2.1 = S.2.2.2.2.2.1 ∧ S'.2.2.2.2.2.2.1 = S.2.2.2.2.2.2.1
theorem ca_fm.refl : ca_fm S S B F E := ⟨fun _ _ _ _ _ _ => rfl, rfl, fun _ _ _ _ _ _ _ _ _ _ _ _ _ => rfl, rfl, rfl, rfl, rfl⟩
theorem ca_fm.trans {S1 S2 : ty_S} (h : ca_fm S S1 B F E) (g : ca_fm S1 S2 B F E) : ca_fm S S2 B F E :=
  ⟨fun b j a c x e => (g.1 b j a c x e).trans (h.1 b j a c x e), g.2.1.trans h.2.1, fun b a1 a2 a3 a4 a5 a6 a7 a8 a9 a10 a11 a12 => (g.2.2.1 b a1 a2 a3 a4 a5 a6 a7 a8 a9 a10 a11 a12).trans (h.2.2.1 b a1 a2 a3 a4 a5 a6 a7 a8 a9 a10 a11 a12), g.2.2.2.1.trans h.2.2.2.1, g.2.2.2.2.1.trans h.2.2.2.2.1, g.2.2.2.2.2.1.trans h.2.2.2.2.2.1, g.2.2.2.2.2.2.trans h.2.2.2.2.2.2⟩
theorem cp_fm.ca {S1 : ty_S} (h : cp_fm S S1 B F E) : ca_fm S S1 B F E := ⟨fun b j a c _ e => h.1 b j a c e, h.2.1, fun b a1 a2 a3 a4 a5 a6 a7 a8 a9 a10 _ _ => h.2.2.1 b a1 a2 a3 a4 a5 a6 a7 a8 a9 a10, h.2.2.2⟩
end CAH
