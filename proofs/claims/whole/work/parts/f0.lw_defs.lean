/-! THE LAW: the desk and the reference, side by side. -/
def lw_I (S : ty_S) : Nat → Int := S.1 (94, 0)
def lw_M (S : ty_S) : Nat → Int → Int := fun q => if 53 ≤ q ∧ q ≤ 92 then S.2.2.1 (q, 0) else fun _ => 0
theorem lw_self {S : ty_S} : rm_s S (lw_I S) (lw_M S) = S := by
  refine Prod.ext ?_ (Prod.ext rfl (Prod.ext ?_ rfl))
  · funext b j
    show (if b = (94, 0) then S.1 (94, 0) j else S.1 b j) = S.1 b j
    split
    · rename_i h
      rw [h]
    · rfl
  · funext b
    obtain ⟨b1, b2⟩ := b
    show (if (53 ≤ b1 ∧ b1 ≤ 92) ∧ b2 = 0 then lw_M S b1 else S.2.2.1 (b1, b2)) = S.2.2.1 (b1, b2)
    split
    · rename_i h
      unfold lw_M
      rw [if_pos h.1, h.2]
    · rfl
theorem lw_I_s {S : ty_S} {I : Nat → Int} {A : Nat → Int → Int} : lw_I (rm_s S I A) = I := by
  funext k
  exact rm_I
theorem lw_M_s {S : ty_S} {I : Nat → Int} {A : Nat → Int → Int} {q : Nat} (h : 53 ≤ q ∧ q ≤ 92) : lw_M (rm_s S I A) q = A q := by
  unfold lw_M
  rw [if_pos h]
  exact if_pos ⟨h, rfl⟩
theorem lw_W_I {S S' : ty_S} (h : dk_W S S') : lw_I S' = lw_I S := by
  funext k
  exact ((h.1 (94, 0) (by decide) (by decide)).1 k).1
theorem lw_W_M {S S' : ty_S} (h : dk_W S S') : lw_M S' = lw_M S := by
  funext q
  unfold lw_M
  by_cases e : 53 ≤ q ∧ q ≤ 92
  · rw [if_pos e, if_pos e]
    exact (h.1 (q, 0) e.1 (by show q ≠ 93; omega)).2.1
  · rw [if_neg e, if_neg e]
/-- the desk does not mind the reference -/
theorem dk_R_rm {S : ty_S} {I : Nat → Int} {A : Nat → Int → Int} {K : Nat × Nat} {th : Nat} {tau : dk_T} {s : Nat → Nat} {tx : List Int} {pl : Int} {m : Nat} {as : Option mo_M} (h : dk_R S K th tau s tx pl m as) : dk_R (rm_s S I A) K th tau s tx pl m as := by
  have eI : ∀ (b : ai_A) (j : Nat), b ≠ (94, 0) → (rm_s S I A).1 b j = S.1 b j := fun b j hb => if_neg hb
  have eA : ∀ b : ai_A, ¬ (53 ≤ b.1 ∧ b.1 ≤ 92) → (rm_s S I A).2.2.1 b = S.2.2.1 b := fun b hb => if_neg (fun z => hb z.1)
  have hso : ∀ b : ai_A, b.1 ∈ cs_so → b ≠ (94, 0) := fun b hb z => by rw [z] at hb; exact absurd hb (by decide)
  have hsa : ∀ (l : List Nat), l.all (fun x => Nat.blt x 53) = true → ∀ b : ai_A, b.1 ∈ l → ¬ (53 ≤ b.1 ∧ b.1 ≤ 92) := fun l hl b hb z => by
    have := List.all_eq_true.mp hl _ hb
    have := Nat.le_of_ble_eq_true this
    omega
  have hDk : ∀ j, (rm_s S I A).1 (93, 0) j = S.1 (93, 0) j := fun j => eI _ j (by decide)
  obtain ⟨x1, x2, x3, x4, x5⟩ := h.2.2.2.1
  refine dk_R_keep h ⟨h.1, fun b a j => ⟨eI b j (hso b a), rfl⟩, fun b a => ⟨eA b (hsa cs_sa (by decide) b a), rfl, rfl⟩, fun _ => Nat.le_refl _, rfl, rfl⟩ (fun b hb j => eI b j (fun z => by rw [z] at hb; exact absurd hb (by decide))) (fun b hb => eA b (hsa dk_sa (by decide) b hb)) rfl (hDk _) ⟨(hDk _).trans x1, x2, x3, ?_, ?_⟩ ⟨(hDk _).trans h.2.2.2.2.1.1, h.2.2.2.2.1.2⟩ (hDk _) (fun _ _ _ _ _ z => z)
  · rw [eA _ (by decide)]
    exact x4
  · rw [eA _ (by decide)]
    exact x5
theorem dk_R_ex {S : ty_S} {K : Nat × Nat} {th : Nat} {tau : dk_T} {s : Nat → Nat} {tx : List Int} {pl : Int} {m : Nat} {as : Option mo_M} (h : dk_R S K th tau s tx pl m as) : dk_R (ty_ex S) K th tau s tx pl m as := by
  refine dk_R_keep h ⟨ty_st.ex h.1, fun _ _ _ => ⟨rfl, rfl⟩, fun _ _ => ⟨rfl, rfl, rfl⟩, fun t => ?_, rfl, rfl⟩ (fun _ _ _ => rfl) (fun _ _ => rfl) rfl rfl h.2.2.2.1 h.2.2.2.2.1 rfl (fun _ _ _ _ _ z => z)
  show S.2.2.2.2.2.2.1 t ≤ (if t = 1 then S.2.2.2.2.2.2.1 1 + 1 else S.2.2.2.2.2.2.1 t)
  split
  · rename_i e
    rw [e]
    omega
  · exact Nat.le_refl _
theorem dk_R_Z {S : ty_S} {i : Int} {v : Int64} {K : Nat × Nat} {th : Nat} {tau : dk_T} {s : Nat → Nat} {tx : List Int} {pl : Int} {m : Nat} {as : Option mo_M} (h : dk_R S K th tau s tx pl m as) : dk_R (ty_sZ S i v) K th tau s tx pl m as :=
  dk_R_keep h ⟨h.1, fun _ _ _ => ⟨rfl, rfl⟩, fun _ _ => ⟨rfl, rfl, rfl⟩, fun _ => Nat.le_refl _, rfl, rfl⟩ (fun _ _ _ => rfl) (fun _ _ => rfl) rfl rfl h.2.2.2.1 h.2.2.2.2.1 rfl (fun _ _ _ _ _ z => z)
/-- the same text, the same search, in both -/
def lw_R (S : ty_S) (K : Nat × Nat) (th : Nat) : Prop := ∃ tau s tx pl m as, dk_R S K th tau s tx pl m as ∧ rm_R S (lw_I S) (lw_M S) tau s tx pl m as
theorem dk_MI {S : ty_S} {K : Nat × Nat} {th : Nat} {tau : dk_T} {s : Nat → Nat} {tx : List Int} {pl : Int} {m : Nat} {as : Option mo_M} (h : dk_R S K th tau s tx pl m as) : ∀ M, as = some M → mo_MI (dk_P S tau s m) M := fun M hM => by
  subst hM
  exact h.2.2.2.2.2.2.2.2
theorem lw_up {S : ty_S} {I : Nat → Int} {A : Nat → Int → Int} {K : Nat × Nat} {th : Nat} {tau : dk_T} {s : Nat → Nat} {tx : List Int} {pl : Int} {m : Nat} {as : Option mo_M} (h : dk_R S K th tau s tx pl m as) (g : rm_R S I A tau s tx pl m as) : lw_R (rm_s S I A) K th := by
  have h' := dk_R_rm (I := I) (A := A) h
  refine ⟨tau, s, tx, pl, m, as, h', ?_⟩
  have g1 := rm_R_rows h.2.1 h'.2.1 (dk_MI h) g
  rw [lw_I_s]
  exact rm_R_in h'.2.1 (dk_MI h') g1 (fun q hq => lw_M_s hq)
theorem rm_R_G {S S' : ty_S} {I : Nat → Int} {A : Nat → Int → Int} {tau : dk_T} {s : Nat → Nat} {tx : List Int} {pl : Int} {m : Nat} {as : Option mo_M} (h : rm_R S I A tau s tx pl m as) (e : dk_P S' tau s m = dk_P S tau s m) : rm_R S' I A tau s tx pl m as := by
  have eG : dk_G S' tau = dk_G S tau := congrArg Prod.fst e
  obtain ⟨h1, h2, h3, h4, h5, h6⟩ := h
  refine ⟨h1, h2, h3, h4, h5, ?_⟩
  unfold rm_As at h6 ⊢
  rw [eG]
  exact h6
section LWS
variable {L : Nat} {xs : Nat → Int32} {d mi pc : Nat} {ls : ai_L} {st : List ai_V} {S : ty_S} {Q : ai_O → ty_S → Prop} {ks : List Nat}
/-- the script is read -/
theorem ty_sload {i : Int} (row : gt_P.1 mi pc = some (3, .iaload, ks)) (h0 : 0 < S.2.2.2.2.2.2.1 0) (hi : 0 ≤ i ∧ i < L ∧ i ≤ 2147483647) (k : ty_W L xs d mi (pc + 1) ls (.inl (xs i.toNat) :: st) S Q) : ty_W L xs d mi pc ls (.inl (ty_J i) :: .inr (.inr (some (0, 0))) :: st) S Q := by
  refine ty_heap row ?_ k
  have h1 : (ty_H S).1 (0, 0) = some (.inr (.inr 0)) := ty_H_at (S := S) (a := (0, 0)) h0
  have hn : ¬ (ty_J i < 0 ∨ L ≤ (ty_J i).toNatClampNeg) := by
    rw [ty_J_nat (by omega)]
    rintro (z | z)
    · exact ty_J_nneg (by omega) z
    · omega
  simp only [ai_heap, h1]
  rw [if_pos hn, ty_J_nat (by omega)]
theorem ty_lcmp {v : Int64} (row : gt_P.1 mi pc = some (0, .lcmp, ks)) (k : ty_W L xs d mi (pc + 1) ls (.inl (ty_J 0) :: st) S Q) : ty_W L xs d mi pc ls (.inr (.inl v) :: .inr (.inl v) :: st) S Q := by
  refine ty_pure row ?_ k
  simp [ai_pure, lg_cmp, ty_J_zero]
end LWS
