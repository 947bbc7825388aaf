/-! The reference reads. -/
def rm_a (A : Nat → Int → Int) (s : Nat) (g : Int → Int) : Nat → Int → Int := fun q => if q = s then g else A q
theorem rm_w_a {A : Nat → Int → Int} {s : Nat} {g : Int → Int} {i v : Int} : rm_w (rm_a A s g) s i v = rm_a A s (mo_up g i v) := by
  funext q j
  show (if q = s ∧ j = i then v else (if q = s then g else A q) j) = (if q = s then mo_up g i v else A q) j
  by_cases e : q = s
  · rw [if_pos e, if_pos e]
    unfold mo_up
    by_cases e2 : j = i
    · rw [if_pos ⟨e, e2⟩, if_pos e2]
    · rw [if_neg (fun w => e2 w.2), if_neg e2]
  · rw [if_neg (fun w => e w.1), if_neg e, if_neg e]
theorem rm_u_u {I : Nat → Int} {k : Nat} {v w : Int} : rm_u (rm_u I k v) k w = rm_u I k w := by
  funext j
  show (if j = k then w else if j = k then v else I j) = if j = k then w else I j
  split <;> rfl
theorem rm_a_self {A : Nat → Int → Int} {s : Nat} : rm_a A s (A s) = A := by
  funext q
  show (if q = s then A s else A q) = A q
  split
  · rename_i e; rw [e]
  · rfl
theorem rm_u_self {I : Nat → Int} {k : Nat} : rm_u I k (I k) = I := by
  funext j
  show (if j = k then I k else I j) = I j
  split
  · rename_i e; rw [e]
  · rfl
section RMR
variable {L : Nat} {xs : Nat → Int32} {S : ty_S} {I : Nat → Int} {A : Nat → Int → Int} {tx : List Int}
/-- the state while it reads -/
def rm_p (S : ty_S) (I : Nat → Int) (A : Nat → Int → Int) (p : Int) (g : Int → Int) : ty_S := rm_s S (rm_u I 10 p) (rm_a A 57 g)
theorem rm_X_p (h : rm_X I A tx) {p : Int} {g : Int → Int} : rm_X (rm_u I 10 p) (rm_a A 57 g) tx := by
  obtain ⟨h1, h2, h3, h4⟩ := h
  exact ⟨h1, h2, h3, h4⟩
theorem rm_p_pos {p : Int} : rm_u I 10 p 10 = p := if_pos rfl
theorem rm_look' (d : Nat) (hS : ty_st S) (hX : rm_X I A tx) {p : Int} {g : Int → Int} (hpr : 0 ≤ p ∧ p ≤ tx.length) : ty_C L xs (d + 1) 111 [.inr (.inr (some (94, 0)))] (rm_p S I A p g) (ty_oI fun z S' => z = dk_f tx p ∧ S' = rm_p S I A p g) := rm_look d hS (rm_X_p hX) rm_p_pos hpr
theorem rm_passes' (d : Nat) (hS : ty_st S) (hX : rm_X I A tx) {p : Int} {g : Int → Int} (hpr : 0 ≤ p ∧ p ≤ tx.length) {c : Int} (hc0 : 0 < c ∧ c ≤ 126) : ty_C L xs (d + 2) 112 [.inr (.inr (some (94, 0))), .inl (ty_J c)] (rm_p S I A p g) (ty_oI fun z S' => (z = 1 ∧ dk_f tx p = c ∧ S' = rm_p S I A (p + 1) g) ∨ (z = 0 ∧ dk_f tx p ≠ c ∧ S' = rm_p S I A p g)) := by
  have := rm_passes (L := L) (xs := xs) d hS (rm_X_p hX (p := p) (g := g)) rm_p_pos hpr hc0
  rw [rm_u_u] at this
  exact this
/-- what is asked of the way on: failing at p', or read up to p' -/
theorem rm_args (d : Nat) (hS : ty_st S) (hX : rm_X I A tx) {ca : Int} {Q : ai_O → ty_S → Prop} (D : Nat) (hD : 2 ≤ D ∧ D ≤ 6) (m : Nat)
    (ht : ∀ (p : Int) (g : Int → Int) (x4 x5 : Option ai_V), 0 ≤ p → p ≤ tx.length → ((pt_t (dk_f tx) m p).1 = false → ∀ g', (∀ j, j ≤ (D : Int) → g' j = g j) → Q (.inl (some (.inl (ty_J 0)))) (rm_p S I A (pt_t (dk_f tx) m p).2.1 g')) → ((pt_t (dk_f tx) m p).1 = true → ∀ g' x4 x5, (∀ j, j ≤ (D : Int) → g' j = g j) → ty_W L xs (d + 2) 110 4 [some (.inr (.inr (some (94, 0)))), some (.inl (ty_J ca)), some (.inl (ty_J D)), some (.inl (ty_J 0)), x4, x5] [] (rm_p S I A (pt_t (dk_f tx) m p).2.1 g') Q) → ty_W L xs (d + 2) 110 4 [some (.inr (.inr (some (94, 0)))), some (.inl (ty_J ca)), some (.inl (ty_J D)), some (.inl (ty_J 1)), x4, x5] [] (rm_p S I A p g) Q) :
    ∀ (r : Nat) (k : Int) (p : Int) (g : Int → Int) (x4 x5 : Option ai_V), k + r = 3 → 0 ≤ k → g D = k + 1 → 0 ≤ p → p ≤ tx.length → ((pt_a (dk_f tx) (pt_t (dk_f tx) m) (r + 0) p).1 = false → ∀ g', (∀ j, j < (D : Int) → g' j = g j) → Q (.inl (some (.inl (ty_J 0)))) (rm_p S I A (pt_a (dk_f tx) (pt_t (dk_f tx) m) r p).2.1 g')) → ((pt_a (dk_f tx) (pt_t (dk_f tx) m) r p).1 = true → ∀ g' x4 x5, (∀ j, j < (D : Int) → g' j = g j) → ty_W L xs (d + 2) 110 4 [some (.inr (.inr (some (94, 0)))), some (.inl (ty_J ca)), some (.inl (ty_J ((D : Int) - 1))), some (.inl (ty_J 0)), x4, x5] [] (rm_p S I A (pt_a (dk_f tx) (pt_t (dk_f tx) m) r p).2.1 g') Q) → 0 < r →
    ty_W L xs (d + 2) 110 4 [some (.inr (.inr (some (94, 0)))), some (.inl (ty_J ca)), some (.inl (ty_J D)), some (.inl (ty_J 1)), x4, x5] [] (rm_p S I A p g) Q := by
  have hn : ∀ p, (tx.length : Int) ≤ p → dk_f tx p = 0 := fun p hp => dk_f_n hp
  have h48 := hX.2.1
  intro r
  induction r with
  | zero => intro k p g x4 x5 _ _ _ _ _ _ _ h; omega
  | succ r ih =>
    intro k p g x4 x5 hk hk0 hg h0 h1 qf qo _
    have step : pt_a (dk_f tx) (pt_t (dk_f tx) m) (r + 1) p = if (pt_t (dk_f tx) m p).1 = false then (false, (pt_t (dk_f tx) m p).2.1, [p], (pt_t (dk_f tx) m p).2.2)
      else if dk_f tx (pt_t (dk_f tx) m p).2.1 = 41 then (true, (pt_t (dk_f tx) m p).2.1 + 1, [p], (pt_t (dk_f tx) m p).2.2)
      else if r = 0 ∨ dk_f tx (pt_t (dk_f tx) m p).2.1 ≠ 44 then (false, (pt_t (dk_f tx) m p).2.1, [p], (pt_t (dk_f tx) m p).2.2)
      else ((pt_a (dk_f tx) (pt_t (dk_f tx) m) r ((pt_t (dk_f tx) m p).2.1 + 1)).1, (pt_a (dk_f tx) (pt_t (dk_f tx) m) r ((pt_t (dk_f tx) m p).2.1 + 1)).2.1, p :: (pt_a (dk_f tx) (pt_t (dk_f tx) m) r ((pt_t (dk_f tx) m p).2.1 + 1)).2.2.1, (pt_t (dk_f tx) m p).2.2 ++ (pt_a (dk_f tx) (pt_t (dk_f tx) m) r ((pt_t (dk_f tx) m p).2.1 + 1)).2.2.2) := rfl
    rw [Nat.add_zero, step] at qf
    rw [step] at qo
    clear step
    have hspec := pt_t_spec hn m p h0 h1
    refine ht p g x4 x5 h0 h1 ?_ ?_
    · intro e g' hg'
      rw [if_pos e] at qf
      exact qf rfl g' (fun j hj => hg' j (by omega))
    · intro e g' y4 y5 hg'
      rw [if_neg (by rw [e]; decide)] at qf qo
      obtain ⟨k1, k2, -⟩ := hspec
      generalize (pt_t (dk_f tx) m p).2.1 = p1 at qf qo k1 k2
      have hgD : g' D = k + 1 := (hg' D (Int.le_refl _)).trans hg
      have hr := dk_f_r hX.2.2.1 (p := p1)
      -- neither a comma that may stand, nor a bracket
      have other : (dk_f tx p1 = 44 → r = 0) → ty_W L xs (d + 2) 110 182 [some (.inr (.inr (some (94, 0)))), some (.inl (ty_J ca)), some (.inl (ty_J D)), some (.inl (ty_J 0)), y4, y5] [] (rm_p S I A p1 g') Q := by
        intro hne
        refine ty_aload_n (pc := 182) (i := 0) (ks := []) (by decide +kernel) rfl ?_
        refine ty_bipush (pc := 183) (n := 41) (ks := []) (by decide +kernel) (by omega) ?_
        -- at 185: .invokevirtual 160
        refine ty_callv (pc := 185) (idx := 160) (m := 112) (n := 2) (c := 13) (vs := [_]) (r := []) (by decide +kernel) rfl rfl (Nat.le_of_ble_eq_true rfl) (by first | rfl | assumption) (by first | exact hS.1 _ _ rfl | assumption) ((rm_passes' d hS hX (p := p1) (g := g') ⟨by omega, k2⟩ (c := 41) (by decide))) ?_
        rintro _ S1 ⟨z, rfl, ⟨rfl, hh, rfl⟩ | ⟨rfl, hh, rfl⟩⟩
        · refine ty_KI ?_
          refine ty_if_eq (pc := 188) (off := 9) (t := 197) (ks := []) (by decide +kernel) (by omega) (fun hc => ?_) (fun hc => ?_)
          · exact absurd hc (by decide)
          · clear hc
            rw [if_pos hh] at qo
            refine ty_iinc (pc := 191) (i := 2) (n := (-1)) (ks := []) (ls' := [_, _, _, _, _, _]) (by decide +kernel) rfl rfl ?_
            refine ty_goto (pc := 194) (off := (-190)) (t := 4) (ks := []) (by decide +kernel) ?_
            -- at 4: .iload_n 2
            rw [show (D : Int) + -1 = (D : Int) - 1 by omega]
            exact qo rfl g' y4 y5 (fun j hj => hg' j (by omega))
        · refine ty_KI ?_
          refine ty_if_eq (pc := 188) (off := 9) (t := 197) (ks := []) (by decide +kernel) (by omega) (fun hc => ?_) (fun hc => ?_)
          · refine ty_iconst (pc := 197) (n := 0) (ks := []) (by decide +kernel) ?_
            -- at 198: .ireturn
            refine ty_ret_i (pc := 198) (ks := []) (ty := .boolean) (by decide +kernel) rfl (ty_fit_z (by omega)) ?_
            rw [if_neg hh, if_pos (by omega)] at qf
            exact qf rfl g' (fun j hj => hg' j (by omega))
          · exact absurd rfl hc
      refine ty_iload_n (pc := 4) (i := 2) (ks := []) (by decide +kernel) rfl ?_
      -- at 5: .ifCond .le 194
      refine ty_if_le (pc := 5) (off := 194) (t := 199) (ks := []) (by decide +kernel) (by omega) (fun hc => ?_) (fun hc => ?_)
      · omega
      clear hc
      refine ty_iload_n (pc := 8) (i := 3) (ks := []) (by decide +kernel) rfl ?_
      -- at 9: .ifCond .eq 119
      refine ty_if_eq (pc := 9) (off := 119) (t := 128) (ks := []) (by decide +kernel) (by omega) (fun hc => ?_) (fun hc => ?_)
      rotate_left
      · exact absurd rfl hc
      clear hc
      refine ty_iload_n (pc := 128) (i := 2) (ks := []) (by decide +kernel) rfl ?_
      refine ty_iconst (pc := 129) (n := 1) (ks := []) (by decide +kernel) ?_
      -- at 130: .if_icmp .ne 8
      refine ty_icmp_ne (pc := 130) (off := 8) (t := 138) (ks := []) (by decide +kernel) (by omega) (by omega) (fun hc => ?_) (fun hc => ?_)
      rotate_left
      · omega
      clear hc
      refine ty_aload_n (pc := 138) (i := 0) (ks := []) (by decide +kernel) rfl ?_
      -- at 139: .invokevirtual 156
      refine ty_callv (pc := 139) (idx := 156) (m := 111) (n := 1) (c := 13) (vs := []) (r := []) (by decide +kernel) rfl rfl (Nat.le_of_ble_eq_true rfl) (by first | rfl | assumption) (by first | exact hS.1 _ _ rfl | assumption) ((rm_look' (d + 1) hS hX (p := p1) (g := g') ⟨by omega, k2⟩)) ?_
      rintro _ S1 ⟨z, rfl, rfl, rfl⟩
      refine ty_KI ?_
      refine ty_bipush (pc := 142) (n := 44) (ks := []) (by decide +kernel) (by omega) ?_
      -- at 144: .if_icmp .ne 38
      refine ty_icmp_ne (pc := 144) (off := 38) (t := 182) (ks := []) (by decide +kernel) (by omega) (by omega) (fun hc => ?_) (fun hc => ?_)
      · exact other (fun z => absurd z hc)
      have h44 := hc
      have hlt : p1 < tx.length := by
        by_cases z : (tx.length : Int) ≤ p1
        · rw [hn p1 z] at h44
          omega
        · omega
      unfold rm_p
      have hmany : (rm_a A 57 g') 57 D = k + 1 := hgD
      have hmr : 0 ≤ (rm_a A 57 g') 57 D ∧ (rm_a A 57 g') 57 D ≤ 4 := by rw [hmany]; omega
      refine ty_aload_n (pc := 147) (i := 0) (ks := []) (by decide +kernel) rfl ?_
      refine ty_getS (b := (57, 0)) (pc := 148) (idx := 22) (ci := 13) (f := 4) (by decide +kernel) (by first | rfl | assumption) rfl (by first | exact hS.1 _ _ rfl | assumption) (by first | exact hS.2.2 _ _ _ _ rfl | assumption) ?_
      refine ty_iload_n (pc := 151) (i := 2) (ks := []) (by decide +kernel) rfl ?_
      refine ty_iaload (pc := 152) (ks := []) (by decide +kernel) (by first | rfl | assumption) (by rfl) (by first | exact hS.1 _ _ rfl | assumption) (by first | exact hS.2.1 _ _ _ rfl | assumption) (by omega) (fun v hv => ?_)
      rw [rm_A (by decide)] at hv
      first | (simp (decide := true) only [rm_w, ty_sI, ty_sR, ty_sA, ty_sQ, ty_mA, ty_mQ, ↓reduceIte, false_and, and_false, true_and, and_true, and_self] at hv) | skip
      subst hv
      refine ty_iconst (pc := 153) (n := 3) (ks := []) (by decide +kernel) ?_
      -- at 154: .if_icmp .ge 28
      refine ty_icmp_ge (pc := 154) (off := 28) (t := 182) (ks := []) (by decide +kernel) (by omega) (by omega) (fun hc => ?_) (fun hc => ?_)
      · exact other (fun _ => by omega)
      have hr0 : r ≠ 0 := by omega
      refine ty_aload_n (pc := 157) (i := 0) (ks := []) (by decide +kernel) rfl ?_
      refine ty_dup (pc := 158) (ks := []) (by decide +kernel) rfl ?_
      refine ty_getI (pc := 159) (idx := 153) (ci := 13) (f := 10) (by decide +kernel) (by first | rfl | assumption) rfl (by first | exact hS.1 _ _ rfl | assumption) (fun v hv => ?_)
      simp (decide := true) only [rm_I, rm_u, rm_w, ty_sI, ty_sR, ty_sA, ty_sQ, ty_mA, ty_mQ, ↓reduceIte, false_and, and_false, true_and, and_true, and_self] at hv
      subst hv
      refine ty_iconst (pc := 162) (n := 1) (ks := []) (by decide +kernel) ?_
      refine ty_iadd (pc := 163) (ks := []) (by decide +kernel) ?_
      refine ty_putI (pc := 164) (idx := 153) (ci := 13) (f := 10) (by decide +kernel) (by first | rfl | assumption) rfl rfl (by first | exact hS.1 _ _ rfl | assumption) ?_
      rw [rm_sI]
      refine ty_aload_n (pc := 167) (i := 0) (ks := []) (by decide +kernel) rfl ?_
      refine ty_getS (b := (57, 0)) (pc := 168) (idx := 22) (ci := 13) (f := 4) (by decide +kernel) (by first | rfl | assumption) rfl (by first | exact hS.1 _ _ rfl | assumption) (by first | exact hS.2.2 _ _ _ _ rfl | assumption) ?_
      refine ty_iload_n (pc := 171) (i := 2) (ks := []) (by decide +kernel) rfl ?_
      refine ty_dup2 (pc := 172) (ks := []) (by decide +kernel) rfl rfl ?_
      refine ty_iaload (pc := 173) (ks := []) (by decide +kernel) (by first | rfl | assumption) (by rfl) (by first | exact hS.1 _ _ rfl | assumption) (by first | exact hS.2.1 _ _ _ rfl | assumption) (by omega) (fun v hv => ?_)
      rw [rm_A (by decide)] at hv
      first | (simp (decide := true) only [rm_w, ty_sI, ty_sR, ty_sA, ty_sQ, ty_mA, ty_mQ, ↓reduceIte, false_and, and_false, true_and, and_true, and_self] at hv) | skip
      subst hv
      refine ty_iconst (pc := 174) (n := 1) (ks := []) (by decide +kernel) ?_
      refine ty_iadd (pc := 175) (ks := []) (by decide +kernel) ?_
      refine ty_iastore (pc := 176) (ks := []) (by decide +kernel) (by first | rfl | assumption) (by rfl) (by first | exact hS.1 _ _ rfl | assumption) (by first | exact hS.2.1 _ _ _ rfl | assumption) (by omega) ?_
      rw [rm_sA (by decide)]
      refine ty_iconst (pc := 177) (n := 1) (ks := []) (by decide +kernel) ?_
      refine ty_istore_n (pc := 178) (i := 3) (ks := []) (ls' := [_, _, _, _, _, _]) (by decide +kernel) rfl ?_
      refine ty_goto (pc := 179) (off := (-175)) (t := 4) (ks := []) (by decide +kernel) ?_
      -- at 4: .iload_n 2
      rw [rm_u_u, rm_w_a]
      rw [if_neg (by omega), if_neg (by omega)] at qf qo
      rw [hmany]
      have := ih (k + 1) (p1 + 1) (mo_up g' D (k + 1 + 1)) y4 y5 (by omega) (by omega) (if_pos rfl) (by omega) (by omega) (fun z g2 hg2 => qf z g2 (fun j hj => (hg2 j hj).trans ((if_neg (by omega)).trans (hg' j (by omega))))) (fun z g2 z4 z5 hg2 => qo z g2 z4 z5 (fun j hj => (hg2 j hj).trans ((if_neg (by omega)).trans (hg' j (by omega))))) (by omega)
      exact this
theorem rm_term (d : Nat) (hS : ty_st S) (hX : rm_X I A tx) {ca : Int} (hca : ca = 0 ∨ ca = 1) {Q : ai_O → ty_S → Prop} : ∀ (m D : Nat), D + m = 6 → 1 ≤ D → ∀ (p : Int) (g : Int → Int) (x4 x5 : Option ai_V), (ca = 0 ∨ 2 ≤ D ∨ (97 ≤ dk_f tx p ∧ dk_f tx p ≤ 122)) → 0 ≤ p → p ≤ tx.length → ((pt_t (dk_f tx) m p).1 = false → ∀ g', (∀ j, j ≤ (D : Int) → g' j = g j) → Q (.inl (some (.inl (ty_J 0)))) (rm_p S I A (pt_t (dk_f tx) m p).2.1 g')) → ((pt_t (dk_f tx) m p).1 = true → ∀ g' x4 x5, (∀ j, j ≤ (D : Int) → g' j = g j) → ty_W L xs (d + 2) 110 4 [some (.inr (.inr (some (94, 0)))), some (.inl (ty_J ca)), some (.inl (ty_J D)), some (.inl (ty_J 0)), x4, x5] [] (rm_p S I A (pt_t (dk_f tx) m p).2.1 g') Q) →
    ty_W L xs (d + 2) 110 4 [some (.inr (.inr (some (94, 0)))), some (.inl (ty_J ca)), some (.inl (ty_J D)), some (.inl (ty_J 1)), x4, x5] [] (rm_p S I A p g) Q := by
  have hn : ∀ p, (tx.length : Int) ≤ p → dk_f tx p = 0 := fun p hp => dk_f_n hp
  have h48 := hX.2.1
  -- up to the bracket
  have pre : ∀ (D : Nat) (p : Int) (g : Int → Int) (x4 x5 : Option ai_V), 1 ≤ D → D ≤ 6 → (ca = 0 ∨ 2 ≤ D ∨ (97 ≤ dk_f tx p ∧ dk_f tx p ≤ 122)) → 0 ≤ p → p ≤ tx.length → (¬ pt_ch (dk_f tx p) → Q (.inl (some (.inl (ty_J 0)))) (rm_p S I A p g)) → (pt_ch (dk_f tx p) → ¬ ((97 ≤ dk_f tx p ∧ dk_f tx p ≤ 122) ∧ dk_f tx (p + 1) = 40) → ∀ x4 x5, ty_W L xs (d + 2) 110 4 [some (.inr (.inr (some (94, 0)))), some (.inl (ty_J ca)), some (.inl (ty_J D)), some (.inl (ty_J 0)), x4, x5] [] (rm_p S I A (p + 1) g) Q) → (pt_ch (dk_f tx p) → (97 ≤ dk_f tx p ∧ dk_f tx p ≤ 122) ∧ dk_f tx (p + 1) = 40 → ∀ y4 y5 : Int, ty_W L xs (d + 2) 110 95 [some (.inr (.inr (some (94, 0)))), some (.inl (ty_J ca)), some (.inl (ty_J D)), some (.inl (ty_J 0)), some (.inl (ty_J y4)), some (.inl (ty_J y5))] [] (rm_p S I A (p + 1) g) Q) →
      ty_W L xs (d + 2) 110 4 [some (.inr (.inr (some (94, 0)))), some (.inl (ty_J ca)), some (.inl (ty_J D)), some (.inl (ty_J 1)), x4, x5] [] (rm_p S I A p g) Q := by
    intro D p g x4 x5 hD hD6 hcc h0 h1 q1 q2 q3
    have hr := dk_f_r hX.2.2.1 (p := p)
    have hr1 := dk_f_r hX.2.2.1 (p := p + 1)
    have good : ∀ y5 : Int, pt_ch (dk_f tx p) → y5 = (if 97 ≤ dk_f tx p ∧ dk_f tx p ≤ 122 then 1 else 0) → ty_W L xs (d + 2) 110 69 [some (.inr (.inr (some (94, 0)))), some (.inl (ty_J ca)), some (.inl (ty_J D)), some (.inl (ty_J 1)), some (.inl (ty_J (dk_f tx p))), some (.inl (ty_J y5))] [] (rm_p S I A p g) Q := by
      intro y5 hch hy
      have hyr : 0 ≤ y5 ∧ y5 ≤ 1 := by rw [hy]; split <;> omega
      have hlt : p < tx.length := by
        by_cases z : (tx.length : Int) ≤ p
        · rw [hn p z] at hch
          unfold pt_ch at hch
          omega
        · omega
      unfold rm_p
      refine ty_aload_n (pc := 69) (i := 0) (ks := []) (by decide +kernel) rfl ?_
      refine ty_dup (pc := 70) (ks := []) (by decide +kernel) rfl ?_
      refine ty_getI (pc := 71) (idx := 153) (ci := 13) (f := 10) (by decide +kernel) (by first | rfl | assumption) rfl (by first | exact hS.1 _ _ rfl | assumption) (fun v hv => ?_)
      simp (decide := true) only [rm_I, rm_u, rm_w, ty_sI, ty_sR, ty_sA, ty_sQ, ty_mA, ty_mQ, ↓reduceIte, false_and, and_false, true_and, and_true, and_self] at hv
      subst hv
      refine ty_iconst (pc := 74) (n := 1) (ks := []) (by decide +kernel) ?_
      refine ty_iadd (pc := 75) (ks := []) (by decide +kernel) ?_
      refine ty_putI (pc := 76) (idx := 153) (ci := 13) (f := 10) (by decide +kernel) (by first | rfl | assumption) rfl rfl (by first | exact hS.1 _ _ rfl | assumption) ?_
      rw [rm_sI]
      refine ty_iconst (pc := 79) (n := 0) (ks := []) (by decide +kernel) ?_
      refine ty_istore_n (pc := 80) (i := 3) (ks := []) (ls' := [_, _, _, _, _, _]) (by decide +kernel) rfl ?_
      refine ty_iload (pc := 81) (i := 5) (ks := []) (by decide +kernel) rfl ?_
      -- at 83: .ifCond .eq 42
      rw [rm_u_u]
      refine ty_if_eq (pc := 83) (off := 42) (t := 125) (ks := []) (by decide +kernel) (by omega) (fun hc => ?_) (fun hc => ?_)
      · refine ty_goto (pc := 125) (off := (-121)) (t := 4) (ks := []) (by decide +kernel) ?_
        -- at 4: .iload_n 2
        exact q2 hch (fun w => by rw [if_pos w.1] at hy; omega) _ _
      · have hsm : 97 ≤ dk_f tx p ∧ dk_f tx p ≤ 122 := by
          by_cases q : 97 ≤ dk_f tx p ∧ dk_f tx p ≤ 122
          · exact q
          · rw [if_neg q] at hy
            exact absurd hy hc
        clear hc
        refine ty_aload_n (pc := 86) (i := 0) (ks := []) (by decide +kernel) rfl ?_
        -- at 87: .invokevirtual 156
        refine ty_callv (pc := 87) (idx := 156) (m := 111) (n := 1) (c := 13) (vs := []) (r := []) (by decide +kernel) rfl rfl (Nat.le_of_ble_eq_true rfl) (by first | rfl | assumption) (by first | exact hS.1 _ _ rfl | assumption) ((rm_look' (d + 1) hS hX (p := p + 1) (g := g) ⟨by omega, by omega⟩)) ?_
        rintro _ S1 ⟨z, rfl, rfl, rfl⟩
        refine ty_KI ?_
        refine ty_bipush (pc := 90) (n := 40) (ks := []) (by decide +kernel) (by omega) ?_
        -- at 92: .if_icmp .ne 33
        refine ty_icmp_ne (pc := 92) (off := 33) (t := 125) (ks := []) (by decide +kernel) (by omega) (by omega) (fun hc => ?_) (fun hc => ?_)
        · refine ty_goto (pc := 125) (off := (-121)) (t := 4) (ks := []) (by decide +kernel) ?_
          -- at 4: .iload_n 2
          exact q2 hch (fun w => hc w.2) _ _
        · exact q3 hch ⟨hsm, hc⟩ _ _
    refine ty_iload_n (pc := 4) (i := 2) (ks := []) (by decide +kernel) rfl ?_
    -- at 5: .ifCond .le 194
    refine ty_if_le (pc := 5) (off := 194) (t := 199) (ks := []) (by decide +kernel) (by omega) (fun hc => ?_) (fun hc => ?_)
    · omega
    clear hc
    refine ty_iload_n (pc := 8) (i := 3) (ks := []) (by decide +kernel) rfl ?_
    -- at 9: .ifCond .eq 119
    refine ty_if_eq (pc := 9) (off := 119) (t := 128) (ks := []) (by decide +kernel) (by omega) (fun hc => ?_) (fun hc => ?_)
    · exact absurd hc (by decide)
    clear hc
    refine ty_aload_n (pc := 12) (i := 0) (ks := []) (by decide +kernel) rfl ?_
    -- at 13: .invokevirtual 156
    refine ty_callv (pc := 13) (idx := 156) (m := 111) (n := 1) (c := 13) (vs := []) (r := []) (by decide +kernel) rfl rfl (Nat.le_of_ble_eq_true rfl) (by first | rfl | assumption) (by first | exact hS.1 _ _ rfl | assumption) ((rm_look' (d + 1) hS hX (p := p) (g := g) ⟨h0, h1⟩)) ?_
    rintro _ S1 ⟨z, rfl, rfl, rfl⟩
    refine ty_KI ?_
    refine ty_istore (pc := 16) (i := 4) (ks := []) (ls' := [_, _, _, _, _, _]) (by decide +kernel) rfl ?_
    refine ty_iload (pc := 18) (i := 4) (ks := []) (by decide +kernel) rfl ?_
    refine ty_bipush (pc := 20) (n := 97) (ks := []) (by decide +kernel) (by omega) ?_
    refine ty_bipush (pc := 22) (n := 122) (ks := []) (by decide +kernel) (by omega) ?_
    -- at 24: .invokestatic 138
    refine ty_calls (pc := 24) (idx := 138) (m := 105) (n := 3) (c := 0) (av := [_, _, _]) (r := []) (by decide +kernel) rfl rfl (Nat.le_of_ble_eq_true rfl) ((rm_in (d + 1) (v := dk_f tx p) (a := 97) (b := 122) (by omega) (by decide) (by decide))) ?_
    rintro _ S2 ⟨w, rfl, hw, rfl⟩
    refine ty_KI ?_
    have hwr : 0 ≤ w ∧ w ≤ 1 := by rw [hw]; split <;> omega
    refine ty_istore (pc := 27) (i := 5) (ks := []) (ls' := [_, _, _, _, _, _]) (by decide +kernel) rfl ?_
    refine ty_iload (pc := 29) (i := 5) (ks := []) (by decide +kernel) rfl ?_
    -- at 31: .ifCond .ne 38
    refine ty_if_ne (pc := 31) (off := 38) (t := 69) (ks := []) (by decide +kernel) (by omega) (fun hc => ?_) (fun hc => ?_)
    · refine good w (.inr (.inr ?_)) hw
      by_cases q : 97 ≤ dk_f tx p ∧ dk_f tx p ≤ 122
      · exact q
      · rw [if_neg q] at hw
        exact absurd hw hc
    have hns : ¬ (97 ≤ dk_f tx p ∧ dk_f tx p ≤ 122) := fun q => by rw [if_pos q] at hw; omega
    have rest : ty_W L xs (d + 2) 110 43 [some (.inr (.inr (some (94, 0)))), some (.inl (ty_J ca)), some (.inl (ty_J D)), some (.inl (ty_J 1)), some (.inl (ty_J (dk_f tx p))), some (.inl (ty_J w))] [] (rm_p S I A p g) Q := by
      refine ty_iload (pc := 43) (i := 4) (ks := []) (by decide +kernel) rfl ?_
      refine ty_bipush (pc := 45) (n := 65) (ks := []) (by decide +kernel) (by omega) ?_
      refine ty_bipush (pc := 47) (n := 90) (ks := []) (by decide +kernel) (by omega) ?_
      -- at 49: .invokestatic 138
      refine ty_calls (pc := 49) (idx := 138) (m := 105) (n := 3) (c := 0) (av := [_, _, _]) (r := []) (by decide +kernel) rfl rfl (Nat.le_of_ble_eq_true rfl) ((rm_in (d + 1) (v := dk_f tx p) (a := 65) (b := 90) (by omega) (by decide) (by decide))) ?_
      rintro _ S3 ⟨y, rfl, hy, rfl⟩
      refine ty_KI ?_
      have hyr : 0 ≤ y ∧ y ≤ 1 := by rw [hy]; split <;> omega
      refine ty_if_ne (pc := 52) (off := 17) (t := 69) (ks := []) (by decide +kernel) (by omega) (fun hc => ?_) (fun hc => ?_)
      · refine good w (.inl ?_) hw
        by_cases q : 65 ≤ dk_f tx p ∧ dk_f tx p ≤ 90
        · exact q
        · rw [if_neg q] at hy
          exact absurd hy hc
      have hnv : ¬ (65 ≤ dk_f tx p ∧ dk_f tx p ≤ 90) := fun q => by rw [if_pos q] at hy; omega
      clear hy hyr hc y
      refine ty_iload (pc := 55) (i := 4) (ks := []) (by decide +kernel) rfl ?_
      refine ty_bipush (pc := 57) (n := 48) (ks := []) (by decide +kernel) (by omega) ?_
      refine ty_bipush (pc := 59) (n := 57) (ks := []) (by decide +kernel) (by omega) ?_
      -- at 61: .invokestatic 138
      refine ty_calls (pc := 61) (idx := 138) (m := 105) (n := 3) (c := 0) (av := [_, _, _]) (r := []) (by decide +kernel) rfl rfl (Nat.le_of_ble_eq_true rfl) ((rm_in (d + 1) (v := dk_f tx p) (a := 48) (b := 57) (by omega) (by decide) (by decide))) ?_
      rintro _ S4 ⟨y, rfl, hy, rfl⟩
      refine ty_KI ?_
      have hyr : 0 ≤ y ∧ y ≤ 1 := by rw [hy]; split <;> omega
      refine ty_if_ne (pc := 64) (off := 5) (t := 69) (ks := []) (by decide +kernel) (by omega) (fun hc => ?_) (fun hc => ?_)
      · refine good w (.inr (.inl ?_)) hw
        by_cases q : 48 ≤ dk_f tx p ∧ dk_f tx p ≤ 57
        · exact q
        · rw [if_neg q] at hy
          exact absurd hy hc
      · refine ty_iconst (pc := 67) (n := 0) (ks := []) (by decide +kernel) ?_
        -- at 68: .ireturn
        refine ty_ret_i (pc := 68) (ks := []) (ty := .boolean) (by decide +kernel) rfl (ty_fit_z (by omega)) ?_
        refine q1 (fun q => ?_)
        rcases q with q | q | q
        · exact hnv q
        · rw [if_pos q] at hy; omega
        · exact hns q
    refine ty_iload_n (pc := 34) (i := 1) (ks := []) (by decide +kernel) rfl ?_
    -- at 35: .ifCond .eq 8
    refine ty_if_eq (pc := 35) (off := 8) (t := 43) (ks := []) (by decide +kernel) (by omega) (fun hc => ?_) (fun hc => ?_)
    · exact rest
    · have hca1 := hc
      have hD2 : 2 ≤ D := by
        rcases hcc with q | q | q
        · exact absurd q hca1
        · exact q
        · exact absurd q hns
      refine ty_iload_n (pc := 38) (i := 2) (ks := []) (by decide +kernel) rfl ?_
      refine ty_iconst (pc := 39) (n := 1) (ks := []) (by decide +kernel) ?_
      -- at 40: .if_icmp .eq 27
      refine ty_icmp_eq (pc := 40) (off := 27) (t := 67) (ks := []) (by decide +kernel) (by omega) (by omega) (fun hc => ?_) (fun hc => ?_)
      · omega
      · exact rest
  intro m
  induction m with
  | zero =>
    intro D hD hD1 p g x4 x5 hcc h0 h1 qf qo
    unfold pt_t at qf qo
    refine pre D p g x4 x5 hD1 (by omega) hcc h0 h1 ?_ ?_ ?_
    · intro e1
      rw [if_pos e1] at qf
      exact qf rfl g (fun _ _ => rfl)
    · intro e1 e2 y4 y5
      rw [if_neg (not_not_intro e1), if_neg e2] at qo
      exact qo rfl g y4 y5 (fun _ _ => rfl)
    · intro e1 e2 y4 y5
      rw [if_neg (not_not_intro e1), if_pos e2] at qf
      refine ty_iload_n (pc := 95) (i := 2) (ks := []) (by decide +kernel) rfl ?_
      refine ty_bipush (pc := 96) (n := 6) (ks := []) (by decide +kernel) (by omega) ?_
      -- at 98: .if_icmp .ne 5
      refine ty_icmp_ne (pc := 98) (off := 5) (t := 103) (ks := []) (by decide +kernel) (by omega) (by omega) (fun hc => ?_) (fun hc => ?_)
      · omega
      · refine ty_iconst (pc := 101) (n := 0) (ks := []) (by decide +kernel) ?_
        -- at 102: .ireturn
        refine ty_ret_i (pc := 102) (ks := []) (ty := .boolean) (by decide +kernel) rfl (ty_fit_z (by omega)) ?_
        exact qf rfl g (fun _ _ => rfl)
  | succ m ih =>
    intro D hD hD1 p g x4 x5 hcc h0 h1 qf qo
    have step : pt_t (dk_f tx) (m + 1) p = if ¬ pt_ch (dk_f tx p) then (false, p, []) else if (97 ≤ dk_f tx p ∧ dk_f tx p ≤ 122) ∧ dk_f tx (p + 1) = 40 then ((pt_a (dk_f tx) (pt_t (dk_f tx) m) 3 (p + 2)).1, (pt_a (dk_f tx) (pt_t (dk_f tx) m) 3 (p + 2)).2.1, (p, (pt_a (dk_f tx) (pt_t (dk_f tx) m) 3 (p + 2)).2.2.1) :: (pt_a (dk_f tx) (pt_t (dk_f tx) m) 3 (p + 2)).2.2.2) else (true, p + 1, [(p, [])]) := rfl
    rw [step] at qf qo
    refine pre D p g x4 x5 hD1 (by omega) hcc h0 h1 ?_ ?_ ?_
    · intro e1
      rw [if_pos e1] at qf
      exact qf rfl g (fun _ _ => rfl)
    · intro e1 e2 y4 y5
      rw [if_neg (not_not_intro e1), if_neg e2] at qo
      exact qo rfl g y4 y5 (fun _ _ => rfl)
    · intro e1 e2 y4 y5
      rw [if_neg (not_not_intro e1), if_pos e2] at qf qo
      have hlt : p + 1 < tx.length := by
        by_cases z : (tx.length : Int) ≤ p + 1
        · have := hn _ z
          omega
        · omega
      refine ty_iload_n (pc := 95) (i := 2) (ks := []) (by decide +kernel) rfl ?_
      refine ty_bipush (pc := 96) (n := 6) (ks := []) (by decide +kernel) (by omega) ?_
      -- at 98: .if_icmp .ne 5
      refine ty_icmp_ne (pc := 98) (off := 5) (t := 103) (ks := []) (by decide +kernel) (by omega) (by omega) (fun hc => ?_) (fun hc => ?_)
      rotate_left
      · omega
      clear hc
      unfold rm_p
      refine ty_aload_n (pc := 103) (i := 0) (ks := []) (by decide +kernel) rfl ?_
      refine ty_dup (pc := 104) (ks := []) (by decide +kernel) rfl ?_
      refine ty_getI (pc := 105) (idx := 153) (ci := 13) (f := 10) (by decide +kernel) (by first | rfl | assumption) rfl (by first | exact hS.1 _ _ rfl | assumption) (fun v hv => ?_)
      simp (decide := true) only [rm_I, rm_u, rm_w, ty_sI, ty_sR, ty_sA, ty_sQ, ty_mA, ty_mQ, ↓reduceIte, false_and, and_false, true_and, and_true, and_self] at hv
      subst hv
      refine ty_iconst (pc := 108) (n := 1) (ks := []) (by decide +kernel) ?_
      refine ty_iadd (pc := 109) (ks := []) (by decide +kernel) ?_
      refine ty_putI (pc := 110) (idx := 153) (ci := 13) (f := 10) (by decide +kernel) (by first | rfl | assumption) rfl rfl (by first | exact hS.1 _ _ rfl | assumption) ?_
      rw [rm_sI]
      refine ty_iinc (pc := 113) (i := 2) (n := 1) (ks := []) (ls' := [_, _, _, _, _, _]) (by decide +kernel) rfl rfl ?_
      refine ty_aload_n (pc := 116) (i := 0) (ks := []) (by decide +kernel) rfl ?_
      refine ty_getS (b := (57, 0)) (pc := 117) (idx := 22) (ci := 13) (f := 4) (by decide +kernel) (by first | rfl | assumption) rfl (by first | exact hS.1 _ _ rfl | assumption) (by first | exact hS.2.2 _ _ _ _ rfl | assumption) ?_
      refine ty_iload_n (pc := 120) (i := 2) (ks := []) (by decide +kernel) rfl ?_
      refine ty_iconst (pc := 121) (n := 1) (ks := []) (by decide +kernel) ?_
      refine ty_iastore (pc := 122) (ks := []) (by decide +kernel) (by first | rfl | assumption) (by rfl) (by first | exact hS.1 _ _ rfl | assumption) (by first | exact hS.2.1 _ _ _ rfl | assumption) (by omega) ?_
      rw [rm_sA (by decide)]
      refine ty_iconst (pc := 123) (n := 1) (ks := []) (by decide +kernel) ?_
      refine ty_istore_n (pc := 124) (i := 3) (ks := []) (ls' := [_, _, _, _, _, _]) (by decide +kernel) rfl ?_
      refine ty_goto (pc := 125) (off := (-121)) (t := 4) (ks := []) (by decide +kernel) ?_
      -- at 4: .iload_n 2
      rw [rm_u_u, rm_w_a, show p + 1 + 1 = p + 2 by omega]
      have := rm_args (L := L) (xs := xs) d hS hX (ca := ca) (Q := Q) (D + 1) ⟨by omega, by omega⟩ m (fun p g x4 x5 h0 h1 a b => ih (D + 1) (by omega) (by omega) p g x4 x5 (.inr (.inl (by omega))) h0 h1 a b) 3 0 (p + 2) (mo_up g ((D : Int) + 1) 1) (some (.inl (ty_J y4))) (some (.inl (ty_J y5))) rfl (Int.le_refl _) (by rw [show ((D + 1 : Nat) : Int) = (D : Int) + 1 by omega]; exact if_pos rfl) (by omega) (by omega) (fun z g' hg' => qf z g' (fun j hj => (hg' j (by omega)).trans (if_neg (by omega)))) (fun z g' z4 z5 hg' => by
        have := qo z g' z4 z5 (fun j hj => (hg' j (by omega)).trans (if_neg (by omega)))
        rw [show ((D + 1 : Nat) : Int) - 1 = (D : Int) by omega]
        exact this) (by omega)
      rw [show ((D + 1 : Nat) : Int) = (D : Int) + 1 by omega] at this
      exact this
/-- readTerm, all of it -/
theorem rm_readTerm (d : Nat) (hS : ty_st S) (hX : rm_X I A tx) {ca : Int} (hca : ca = 0 ∨ ca = 1) {p : Int} {g : Int → Int} (h0 : 0 ≤ p) (h1 : p ≤ tx.length) : ty_C L xs (d + 3) 110 [.inr (.inr (some (94, 0))), .inl (ty_J ca)] (rm_p S I A p g) (ty_oI fun z S' => ∃ g', (¬ (ca = 0 ∨ (97 ≤ dk_f tx p ∧ dk_f tx p ≤ 122)) ∧ z = 0 ∧ S' = rm_p S I A p g') ∨ ((ca = 0 ∨ (97 ≤ dk_f tx p ∧ dk_f tx p ≤ 122)) ∧ z = (if (pt_t (dk_f tx) 5 p).1 = true then 1 else 0) ∧ S' = rm_p S I A (pt_t (dk_f tx) 5 p).2.1 g')) := by
  refine ty_enter (ml := 6) (ls := [_, _, _, _, _, _]) rfl rfl (Nat.le_of_ble_eq_true rfl) ?_
  refine ty_iconst (pc := 0) (n := 1) (ks := []) (by decide +kernel) ?_
  refine ty_istore_n (pc := 1) (i := 2) (ks := []) (ls' := [_, _, _, _, _, _]) (by decide +kernel) rfl ?_
  refine ty_iconst (pc := 2) (n := 1) (ks := []) (by decide +kernel) ?_
  refine ty_istore_n (pc := 3) (i := 3) (ks := []) (ls' := [_, _, _, _, _, _]) (by decide +kernel) rfl ?_
  -- at 4: .iload_n 2
  by_cases hcc : ca = 0 ∨ (97 ≤ dk_f tx p ∧ dk_f tx p ≤ 122)
  · refine rm_term d hS hX hca 5 1 rfl (Nat.le_refl _) p g none none (hcc.elim .inl (fun z => .inr (.inr z))) h0 h1 ?_ ?_
    · intro e g' _
      exact ⟨0, rfl, g', .inr ⟨hcc, by rw [e]; rfl, rfl⟩⟩
    · intro e g' x4 x5 _
      refine ty_iload_n (pc := 4) (i := 2) (ks := []) (by decide +kernel) rfl ?_
      -- at 5: .ifCond .le 194
      refine ty_if_le (pc := 5) (off := 194) (t := 199) (ks := []) (by decide +kernel) (by omega) (fun hc => ?_) (fun hc => ?_)
      · omega
      refine ty_iload_n (pc := 8) (i := 3) (ks := []) (by decide +kernel) rfl ?_
      -- at 9: .ifCond .eq 119
      refine ty_if_eq (pc := 9) (off := 119) (t := 128) (ks := []) (by decide +kernel) (by omega) (fun hc => ?_) (fun hc => ?_)
      rotate_left
      · exact absurd rfl hc
      refine ty_iload_n (pc := 128) (i := 2) (ks := []) (by decide +kernel) rfl ?_
      refine ty_iconst (pc := 129) (n := 1) (ks := []) (by decide +kernel) ?_
      -- at 130: .if_icmp .ne 8
      refine ty_icmp_ne (pc := 130) (off := 8) (t := 138) (ks := []) (by decide +kernel) (by omega) (by omega) (fun hc => ?_) (fun hc => ?_)
      · exact absurd rfl hc
      refine ty_iconst (pc := 133) (n := 0) (ks := []) (by decide +kernel) ?_
      refine ty_istore_n (pc := 134) (i := 2) (ks := []) (ls' := [_, _, _, _, _, _]) (by decide +kernel) rfl ?_
      refine ty_goto (pc := 135) (off := (-131)) (t := 4) (ks := []) (by decide +kernel) ?_
      refine ty_iload_n (pc := 4) (i := 2) (ks := []) (by decide +kernel) rfl ?_
      -- at 5: .ifCond .le 194
      refine ty_if_le (pc := 5) (off := 194) (t := 199) (ks := []) (by decide +kernel) (by omega) (fun hc => ?_) (fun hc => ?_)
      · refine ty_iconst (pc := 199) (n := 1) (ks := []) (by decide +kernel) ?_
        -- at 200: .ireturn
        refine ty_ret_i (pc := 200) (ks := []) (ty := .boolean) (by decide +kernel) rfl (ty_fit_z (by omega)) ?_
        exact ⟨1, rfl, g', .inr ⟨hcc, by rw [e]; rfl, rfl⟩⟩
      · omega
  · have hr := dk_f_r hX.2.2.1 (p := p)
    have hc1 : ca = 1 := by omega
    have hns : ¬ (97 ≤ dk_f tx p ∧ dk_f tx p ≤ 122) := fun q => hcc (.inr q)
    subst hc1
    refine ty_iload_n (pc := 4) (i := 2) (ks := []) (by decide +kernel) rfl ?_
    -- at 5: .ifCond .le 194
    refine ty_if_le (pc := 5) (off := 194) (t := 199) (ks := []) (by decide +kernel) (by omega) (fun hc => ?_) (fun hc => ?_)
    · omega
    refine ty_iload_n (pc := 8) (i := 3) (ks := []) (by decide +kernel) rfl ?_
    -- at 9: .ifCond .eq 119
    refine ty_if_eq (pc := 9) (off := 119) (t := 128) (ks := []) (by decide +kernel) (by omega) (fun hc => ?_) (fun hc => ?_)
    · exact absurd hc (by decide)
    refine ty_aload_n (pc := 12) (i := 0) (ks := []) (by decide +kernel) rfl ?_
    -- at 13: .invokevirtual 156
    refine ty_callv (pc := 13) (idx := 156) (m := 111) (n := 1) (c := 13) (vs := []) (r := []) (by decide +kernel) rfl rfl (Nat.le_of_ble_eq_true rfl) (by first | rfl | assumption) (by first | exact hS.1 _ _ rfl | assumption) ((rm_look' (d + 1) hS hX (p := p) (g := g) ⟨h0, h1⟩)) ?_
    rintro _ S1 ⟨z, rfl, rfl, rfl⟩
    refine ty_KI ?_
    refine ty_istore (pc := 16) (i := 4) (ks := []) (ls' := [_, _, _, _, _, _]) (by decide +kernel) rfl ?_
    refine ty_iload (pc := 18) (i := 4) (ks := []) (by decide +kernel) rfl ?_
    refine ty_bipush (pc := 20) (n := 97) (ks := []) (by decide +kernel) (by omega) ?_
    refine ty_bipush (pc := 22) (n := 122) (ks := []) (by decide +kernel) (by omega) ?_
    -- at 24: .invokestatic 138
    refine ty_calls (pc := 24) (idx := 138) (m := 105) (n := 3) (c := 0) (av := [_, _, _]) (r := []) (by decide +kernel) rfl rfl (Nat.le_of_ble_eq_true rfl) ((rm_in (d + 1) (v := dk_f tx p) (a := 97) (b := 122) (by omega) (by decide) (by decide))) ?_
    rintro _ S2 ⟨w, rfl, hw, rfl⟩
    refine ty_KI ?_
    rw [if_neg hns] at hw
    subst hw
    refine ty_istore (pc := 27) (i := 5) (ks := []) (ls' := [_, _, _, _, _, _]) (by decide +kernel) rfl ?_
    refine ty_iload (pc := 29) (i := 5) (ks := []) (by decide +kernel) rfl ?_
    -- at 31: .ifCond .ne 38
    refine ty_if_ne (pc := 31) (off := 38) (t := 69) (ks := []) (by decide +kernel) (by omega) (fun hc => ?_) (fun hc => ?_)
    · exact absurd rfl hc
    refine ty_iload_n (pc := 34) (i := 1) (ks := []) (by decide +kernel) rfl ?_
    -- at 35: .ifCond .eq 8
    refine ty_if_eq (pc := 35) (off := 8) (t := 43) (ks := []) (by decide +kernel) (by omega) (fun hc => ?_) (fun hc => ?_)
    · exact absurd hc (by decide)
    refine ty_iload_n (pc := 38) (i := 2) (ks := []) (by decide +kernel) rfl ?_
    refine ty_iconst (pc := 39) (n := 1) (ks := []) (by decide +kernel) ?_
    -- at 40: .if_icmp .eq 27
    refine ty_icmp_eq (pc := 40) (off := 27) (t := 67) (ks := []) (by decide +kernel) (by omega) (by omega) (fun hc => ?_) (fun hc => ?_)
    · refine ty_iconst (pc := 67) (n := 0) (ks := []) (by decide +kernel) ?_
      -- at 68: .ireturn
      refine ty_ret_i (pc := 68) (ks := []) (ty := .boolean) (by decide +kernel) rfl (ty_fit_z (by omega)) ?_
      exact ⟨0, rfl, g, .inl ⟨hcc, rfl, rfl⟩⟩
    · exact absurd rfl hc
end RMR
