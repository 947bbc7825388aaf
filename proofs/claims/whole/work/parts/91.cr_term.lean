/-! The class reads a term. -/
def cr_h (S : ty_S) (n : Int) : Int → Int := fun p => if 0 ≤ p ∧ p < n then S.2.2.1 (10, 0) p else 0
def cr_R (S : ty_S) (n : Int) (a : ai_A) (x : Nat) : Prop := ty_st S ∧ S.2.1 (16, 0) 1 = some (10, 0) ∧ S.1 (16, 0) 2 = n ∧ S.2.1 (16, 0) 4 = some a ∧ cs_cl a x ∧ S.1 a 0 = 48 * x ∧ (0 ≤ n ∧ n ≤ 48) ∧ ∀ i, 0 ≤ i → i < 48 → 0 ≤ S.2.2.1 (10, 0) i ∧ S.2.2.1 (10, 0) i ≤ 65535
/-- S, but at p, and with these rows -/
def cr_s (S : ty_S) (p : Int) (l ar g : Int → Int) : ty_S := ty_mA (ty_mA (ty_mA (ty_sI S (16, 0) 3 p) (19, 0) l) (20, 0) ar) (21, 0) g
section CRS
variable {S : ty_S} {p : Int} {l ar g : Int → Int}
theorem cr_s_at : (cr_s S p l ar g).1 (16, 0) 3 = p := by
  show (ty_sI S (16, 0) 3 p).1 (16, 0) 3 = p
  exact ty_sI_at
theorem cr_s_I {b : ai_A} {j : Nat} (h : ¬ (b = (16, 0) ∧ j = 3)) : (cr_s S p l ar g).1 b j = S.1 b j := by
  show (ty_sI S (16, 0) 3 p).1 b j = S.1 b j
  exact ty_sI_ne h
theorem cr_s_A : (cr_s S p l ar g).2.2.1 = fun b => if b = (21, 0) then g else if b = (20, 0) then ar else if b = (19, 0) then l else S.2.2.1 b := rfl
theorem cr_s_p {q : Int} : ty_sI (cr_s S p l ar g) (16, 0) 3 q = cr_s S q l ar g := by
  refine Prod.ext ?_ rfl
  funext b j
  show (if b = (16, 0) ∧ j = 3 then q else if b = (16, 0) ∧ j = 3 then p else S.1 b j) = if b = (16, 0) ∧ j = 3 then q else S.1 b j
  split <;> rfl
theorem cr_s_l {i v : Int} : ty_sA (cr_s S p l ar g) (19, 0) i v = cr_s S p (mo_up l i v) ar g := by
  refine Prod.ext rfl (Prod.ext rfl (Prod.ext ?_ rfl))
  funext b j
  show (if b = (19, 0) ∧ j = i then v else (if b = (21, 0) then g else if b = (20, 0) then ar else if b = (19, 0) then l else S.2.2.1 b) j) = (if b = (21, 0) then g else if b = (20, 0) then ar else if b = (19, 0) then mo_up l i v else S.2.2.1 b) j
  by_cases e : b = (19, 0)
  · subst e
    simp [mo_up]
  · rw [if_neg (fun w => e w.1), if_neg e, if_neg e]
theorem cr_s_a {i v : Int} : ty_sA (cr_s S p l ar g) (20, 0) i v = cr_s S p l (mo_up ar i v) g := by
  refine Prod.ext rfl (Prod.ext rfl (Prod.ext ?_ rfl))
  funext b j
  show (if b = (20, 0) ∧ j = i then v else (if b = (21, 0) then g else if b = (20, 0) then ar else if b = (19, 0) then l else S.2.2.1 b) j) = (if b = (21, 0) then g else if b = (20, 0) then mo_up ar i v else if b = (19, 0) then l else S.2.2.1 b) j
  by_cases e : b = (20, 0)
  · subst e
    simp [mo_up]
  · rw [if_neg (fun w => e w.1), if_neg e, if_neg e]
theorem cr_s_g {i v : Int} : ty_sA (cr_s S p l ar g) (21, 0) i v = cr_s S p l ar (mo_up g i v) := by
  refine Prod.ext rfl (Prod.ext rfl (Prod.ext ?_ rfl))
  funext b j
  show (if b = (21, 0) ∧ j = i then v else (if b = (21, 0) then g else if b = (20, 0) then ar else if b = (19, 0) then l else S.2.2.1 b) j) = (if b = (21, 0) then mo_up g i v else if b = (20, 0) then ar else if b = (19, 0) then l else S.2.2.1 b) j
  by_cases e : b = (21, 0)
  · subst e
    simp [mo_up]
  · rw [if_neg (fun w => e w.1), if_neg e, if_neg e]
end CRS
/-- only the rows of the nodes from p to before p' of text x change -/
def pt_fr (x : Nat) (p p' : Int) (l ar g l' ar' g' : Int → Int) : Prop := (∀ i, ¬ (48 * (x : Int) + p ≤ i ∧ i < 48 * x + p') → l' i = l i ∧ ar' i = ar i) ∧ ∀ i, ¬ (3 * (48 * (x : Int) + p) ≤ i ∧ i < 3 * (48 * x + p')) → g' i = g i
theorem pt_fr.refl {x : Nat} {p p' : Int} {l ar g : Int → Int} : pt_fr x p p' l ar g l ar g := ⟨fun _ _ => ⟨rfl, rfl⟩, fun _ _ => rfl⟩
theorem pt_fr.trans {x : Nat} {p q r s t u : Int} {l ar g l1 a1 g1 l2 a2 g2 : Int → Int} (h : pt_fr x p q l ar g l1 a1 g1) (h' : pt_fr x r s l1 a1 g1 l2 a2 g2) (e1 : t ≤ p ∧ t ≤ r) (e2 : q ≤ u ∧ s ≤ u) : pt_fr x t u l ar g l2 a2 g2 :=
  ⟨fun i hi => ⟨((h'.1 i (fun z => hi (by omega))).1).trans (h.1 i (fun z => hi (by omega))).1, ((h'.1 i (fun z => hi (by omega))).2).trans (h.1 i (fun z => hi (by omega))).2⟩, fun i hi => (h'.2 i (fun z => hi (by omega))).trans (h.2 i (fun z => hi (by omega)))⟩
/-- and the rows of the node q0 -/
def pt_fq (x : Nat) (q0 p p' : Int) (l ar g l' ar' g' : Int → Int) : Prop := (∀ i, ¬ (48 * (x : Int) + p ≤ i ∧ i < 48 * x + p') → l' i = l i ∧ (i ≠ 48 * x + q0 → ar' i = ar i)) ∧ ∀ i, ¬ (3 * (48 * (x : Int) + p) ≤ i ∧ i < 3 * (48 * x + p')) → ¬ (3 * (48 * (x : Int) + q0) ≤ i ∧ i < 3 * (48 * x + q0) + 3) → g' i = g i
theorem pt_fq.fr {x : Nat} {q0 p p' : Int} {l ar g l' ar' g' : Int → Int} (h : pt_fq x q0 p p' l ar g l' ar' g') (hq : q0 < p ∧ p ≤ p') : pt_fr x q0 p' l ar g l' ar' g' :=
  ⟨fun i hi => ⟨(h.1 i (by omega)).1, (h.1 i (by omega)).2 (by omega)⟩, fun i hi => h.2 i (by omega) (by omega)⟩
theorem pt_fq.trans {x : Nat} {q0 p q s : Int} {l ar g l1 a1 g1 l2 a2 g2 : Int → Int} (h : pt_fq x q0 p q l ar g l1 a1 g1) (h' : pt_fq x q0 (q + 1) s l1 a1 g1 l2 a2 g2) (e : p ≤ q ∧ q ≤ s) : pt_fq x q0 p s l ar g l2 a2 g2 :=
  ⟨fun i hi => ⟨((h'.1 i (by omega)).1).trans (h.1 i (by omega)).1, fun hn => ((h'.1 i (by omega)).2 hn).trans ((h.1 i (by omega)).2 hn)⟩, fun i hi hj => (h'.2 i (by omega) hj).trans (h.2 i (by omega) hj)⟩
/-- the rows hold these nodes -/
def pt_at (h : Int → Int) (x : Nat) (l ar g : Int → Int) (N : pt_N) : Prop := ∀ q as, (q, as) ∈ N → l (48 * x + q) = h q ∧ ar (48 * x + q) = as.length ∧ ∀ (k : Nat) (a : Int), as[k]? = some a → g ((48 * x + q) * 3 + k) = 48 * x + a
theorem pt_at_fq {h : Int → Int} {x : Nat} {l ar g l' ar' g' : Int → Int} {N : pt_N} {q0 p p' r s : Int} (hat : pt_at h x l ar g N) (hW : pt_W N p p') (hf : pt_fq x q0 r s l ar g l' ar' g') (hd : p' ≤ r) (hq : q0 < p) : pt_at h x l' ar' g' N := by
  intro q as hm
  obtain ⟨a1, a2, a3⟩ := hat q as hm
  obtain ⟨b1, b2, -⟩ := hW q as hm
  obtain ⟨c1, c2⟩ := hf.1 (48 * x + q) (by omega)
  refine ⟨c1.trans a1, (c2 (by omega)).trans a2, fun k a hk => ?_⟩
  have hk3 : k < 3 := by
    have : k < as.length := by
      by_cases z : k < as.length
      · exact z
      · rw [List.getElem?_eq_none (by omega)] at hk
        cases hk
    omega
  rw [hf.2 _ (by omega) (by omega)]
  exact a3 k a hk
theorem pt_at_fr {h : Int → Int} {x : Nat} {l ar g l' ar' g' : Int → Int} {N : pt_N} {p p' r s : Int} (hat : pt_at h x l ar g N) (hW : pt_W N p p') (hf : pt_fr x r s l ar g l' ar' g') (hd : p' ≤ r ∨ s ≤ p) : pt_at h x l' ar' g' N := by
  intro q as hm
  obtain ⟨a1, a2, a3⟩ := hat q as hm
  obtain ⟨b1, b2, -⟩ := hW q as hm
  obtain ⟨c1, c2⟩ := hf.1 (48 * x + q) (by omega)
  refine ⟨c1.trans a1, c2.trans a2, fun k a hk => ?_⟩
  have hk3 : k < 3 := by
    have : k < as.length := by
      by_cases z : k < as.length
      · exact z
      · rw [List.getElem?_eq_none (by omega)] at hk
        cases hk
    omega
  rw [hf.2 _ (by omega)]
  exact a3 k a hk
section CRT
variable {L : Nat} {xs : Nat → Int32} {S : ty_S} {n : Int} {a : ai_A} {x : Nat}
theorem cr_here (d : Nat) (hR : cr_R S n a x) {p : Int} {l ar g : Int → Int} (hp : 0 ≤ p ∧ p ≤ n) : ty_C L xs (d + 1) 21 [.inr (.inr (some (16, 0)))] (cr_s S p l ar g) (ty_oI fun z S' => z = cr_h S n p ∧ S' = cr_s S p l ar g) := by
  obtain ⟨r1, r2, r3, r4, r5, r6, r7, r8⟩ := hR
  have := ct_here (L := L) (xs := xs) (S := cr_s S p l ar g) d r1 r2 cr_s_at ((cr_s_I (by decide)).trans r3) ⟨hp.1, by omega, r7⟩ r8
  have e : cr_h S n p = if p < n then (cr_s S p l ar g).2.2.1 (10, 0) p else 0 := by
    unfold cr_h
    by_cases z : p < n
    · rw [if_pos ⟨hp.1, z⟩, if_pos z]
      rfl
    · rw [if_neg (fun w => z w.2), if_neg z]
  rw [e]
  exact this
theorem cr_h_r (hR : cr_R S n a x) {p : Int} (hp : 0 ≤ p) : 0 ≤ cr_h S n p ∧ cr_h S n p ≤ 65535 := by
  obtain ⟨r1, r2, r3, r4, r5, r6, r7, r8⟩ := hR
  unfold cr_h
  split
  · exact r8 p hp (by omega)
  · decide
theorem cr_h_n {p : Int} (h : n ≤ p) : cr_h S n p = 0 := if_neg (by omega)
theorem cr_skip (d : Nat) (hR : cr_R S n a x) {p : Int} {l ar g : Int → Int} (hp : 0 ≤ p ∧ p ≤ n) {c : Int} (hc0 : 0 < c ∧ c ≤ 65535) : ty_C L xs (d + 1) 27 [.inr (.inr (some (16, 0))), .inl (ty_J c)] (cr_s S p l ar g) (ty_oI fun z S' => (z = 1 ∧ cr_h S n p = c ∧ S' = cr_s S (p + 1) l ar g) ∨ (z = 0 ∧ cr_h S n p ≠ c ∧ S' = cr_s S p l ar g)) := by
  obtain ⟨r1, r2, r3, r4, r5, r6, r7, r8⟩ := hR
  have e1 := cr_s_at (S := S) (p := p) (l := l) (ar := ar) (g := g)
  have e2 : (cr_s S p l ar g).1 (16, 0) 2 = n := (cr_s_I (by decide)).trans r3
  have e3 : (cr_s S p l ar g).2.2.1 (10, 0) = S.2.2.1 (10, 0) := rfl
  have e4 : (cr_s S p l ar g).2.1 (16, 0) 1 = some (10, 0) := r2
  have hset := cr_s_p (S := S) (p := p) (l := l) (ar := ar) (g := g) (q := p + 1)
  have hS : ty_st (cr_s S p l ar g) := r1
  generalize hT : cr_s S p l ar g = T at e1 e2 e3 e4 hset hS
  refine ty_enter (ml := 2) (ls := [_, _]) rfl rfl (Nat.le_of_ble_eq_true rfl) ?_
  refine ty_aload_n (pc := 0) (i := 0) (ks := []) (by decide +kernel) rfl ?_
  refine ty_getI (pc := 1) (idx := 15) (ci := 4) (f := 3) (by decide +kernel) (by first | rfl | assumption) rfl (by first | exact hS.1 _ _ rfl | assumption) (fun v hv => ?_)
  subst hv
  refine ty_aload_n (pc := 4) (i := 0) (ks := []) (by decide +kernel) rfl ?_
  refine ty_getI (pc := 5) (idx := 9) (ci := 4) (f := 2) (by decide +kernel) (by first | rfl | assumption) rfl (by first | exact hS.1 _ _ rfl | assumption) (fun v hv => ?_)
  subst hv
  -- at 8: .if_icmp .ge 16
  rw [e1, e2]
  refine ty_icmp_ge (pc := 8) (off := 16) (t := 24) (ks := []) (by decide +kernel) (by omega) (by omega) (fun hc => ?_) (fun hc => ?_)
  · refine ty_iconst (pc := 24) (n := 0) (ks := []) (by decide +kernel) ?_
    -- at 25: .ireturn
    refine ty_ret_i (pc := 25) (ks := []) (ty := .boolean) (by decide +kernel) rfl (ty_fit_z (by omega)) ?_
    exact ⟨0, rfl, .inr ⟨rfl, by unfold cr_h; rw [if_neg (by omega)]; omega, rfl⟩⟩
  · have h8 := r8 p hp.1 (by omega)
    rw [← e3] at h8
    rw [← e1] at h8
    have hpr : 0 ≤ T.1 (16, 0) 3 ∧ T.1 (16, 0) 3 < 48 := by rw [e1]; omega
    refine ty_aload_n (pc := 11) (i := 0) (ks := []) (by decide +kernel) rfl ?_
    first | refine ty_getS (pc := 12) (idx := 48) (ci := 4) (f := 1) (by decide +kernel) (by first | rfl | assumption) rfl (by first | exact hS.1 _ _ rfl | assumption) (by assumption) ?_ | (refine ty_getR (pc := 12) (idx := 48) (ci := 4) (f := 1) (by decide +kernel) (by first | rfl | assumption) rfl (by first | exact hS.1 _ _ rfl | assumption) (fun v hv => ?_); (subst hv))
    refine ty_aload_n (pc := 15) (i := 0) (ks := []) (by decide +kernel) rfl ?_
    refine ty_getI (pc := 16) (idx := 15) (ci := 4) (f := 3) (by decide +kernel) (by first | rfl | assumption) rfl (by first | exact hS.1 _ _ rfl | assumption) (fun v hv => ?_)
    subst hv
    refine ty_caload (pc := 19) (ks := []) (by decide +kernel) (by first | rfl | assumption) (by rfl) (by first | exact hS.1 _ _ rfl | assumption) (by first | exact hS.2.1 _ _ _ rfl | assumption) (by omega) (fun v hv => ?_)
    subst hv
    refine ty_iload_n (pc := 20) (i := 1) (ks := []) (by decide +kernel) rfl ?_
    -- at 21: .if_icmp .eq 5
    rw [e1] at h8 ⊢
    have hh : cr_h S n p = T.2.2.1 (10, 0) p := by rw [e3]; exact if_pos (by omega)
    refine ty_icmp_eq (pc := 21) (off := 5) (t := 26) (ks := []) (by decide +kernel) (by omega) (by omega) (fun hc => ?_) (fun hc => ?_)
    · refine ty_aload_n (pc := 26) (i := 0) (ks := []) (by decide +kernel) rfl ?_
      refine ty_dup (pc := 27) (ks := []) (by decide +kernel) rfl ?_
      refine ty_getI (pc := 28) (idx := 15) (ci := 4) (f := 3) (by decide +kernel) (by first | rfl | assumption) rfl (by first | exact hS.1 _ _ rfl | assumption) (fun v hv => ?_)
      subst hv
      refine ty_iconst (pc := 31) (n := 1) (ks := []) (by decide +kernel) ?_
      refine ty_iadd (pc := 32) (ks := []) (by decide +kernel) ?_
      refine ty_putI (pc := 33) (idx := 15) (ci := 4) (f := 3) (by decide +kernel) (by first | rfl | assumption) rfl rfl (by first | exact hS.1 _ _ rfl | assumption) ?_
      refine ty_iconst (pc := 36) (n := 1) (ks := []) (by decide +kernel) ?_
      -- at 37: .ireturn
      refine ty_ret_i (pc := 37) (ks := []) (ty := .boolean) (by decide +kernel) rfl (ty_fit_z (by omega)) ?_
      refine ⟨1, rfl, .inl ⟨rfl, by rw [hh]; exact hc, ?_⟩⟩
      rw [e1]
      exact hset
    · refine ty_iconst (pc := 24) (n := 0) (ks := []) (by decide +kernel) ?_
      -- at 25: .ireturn
      refine ty_ret_i (pc := 25) (ks := []) (ty := .boolean) (by decide +kernel) rfl (ty_fit_z (by omega)) ?_
      exact ⟨0, rfl, .inr ⟨rfl, by rw [hh]; exact hc, rfl⟩⟩
/-- what readTerm comes to -/
def cr_tp (S : ty_S) (n : Int) (x : Nat) (p : Int) (l ar g : Int → Int) (R : Bool × Int × pt_N) : ai_O → ty_S → Prop := ty_oI fun z S' => z = (if R.1 = true then 1 else 0) ∧ ∃ l' ar' g', S' = cr_s S R.2.1 l' ar' g' ∧ pt_fr x p R.2.1 l ar g l' ar' g' ∧ (R.1 = true → pt_at (cr_h S n) x l' ar' g' R.2.2)
/-- what readArguments comes to, from its argument k on -/
def cr_ap (S : ty_S) (n : Int) (x : Nat) (q0 : Int) (k : Nat) (p : Int) (l ar g : Int → Int) (R : Bool × Int × List Int × pt_N) : ai_O → ty_S → Prop := ty_oI fun z S' => z = (if R.1 = true then 1 else 0) ∧ ∃ l' ar' g', S' = cr_s S R.2.1 l' ar' g' ∧ pt_fq x q0 p R.2.1 l ar g l' ar' g' ∧ (R.1 = true → pt_at (cr_h S n) x l' ar' g' R.2.2.2 ∧ ar' (48 * x + q0) = k + R.2.2.1.length ∧ (∀ (j : Nat) (b : Int), R.2.2.1[j]? = some b → g' ((48 * x + q0) * 3 + k + j) = 48 * x + b) ∧ ∀ j : Nat, j < k → g' ((48 * x + q0) * 3 + j) = g ((48 * x + q0) * 3 + j))
/-- readArguments, once readTerm is known one level down -/
theorem cr_args (d : Nat) (hR : cr_R S n a x) (m : Nat) (hm : m ≤ 4) (hrd : ∀ (p : Int) (l ar g : Int → Int), 0 ≤ p → p ≤ n → ty_C L xs (d + 2) 23 [.inr (.inr (some (16, 0))), .inl (ty_J (6 - m))] (cr_s S p l ar g) (cr_tp S n x p l ar g (pt_t (cr_h S n) m p)))
    {q0 : Int} (hq0 : 0 ≤ q0) : ∀ (r k : Nat) (p : Int) (l ar g : Int → Int), k + r = 3 → q0 < p → p ≤ n →
    ty_W L xs (d + 2) 26 12 [some (.inr (.inr (some (16, 0)))), some (.inl (ty_J (48 * x + q0))), some (.inl (ty_J (6 - m))), some (.inl (ty_J k))] [] (cr_s S p l ar g) (cr_ap S n x q0 k p l ar g (pt_a (cr_h S n) (pt_t (cr_h S n) m) r p)) := by
  have hnn : ∀ p, n ≤ p → cr_h S n p = 0 := fun p hp => cr_h_n hp
  have hsp := pt_t_spec hnn m
  have hR0 := hR
  obtain ⟨r1, r2, r3, r4, r5, r6, r7, r8⟩ := hR
  have hx12 : x ≤ 12 := by
    rcases r5 with ⟨-, z⟩ | ⟨-, z⟩
    · omega
    · omega
  intro r
  induction r with
  | zero =>
    intro k p l ar g hk hp hpn
    have hS : ty_st (cr_s S p l ar g) := r1
    refine ty_iload_n (pc := 12) (i := 3) (ks := []) (by decide +kernel) rfl ?_
    refine ty_iconst (pc := 13) (n := 3) (ks := []) (by decide +kernel) ?_
    -- at 14: .if_icmp .ge 85
    refine ty_icmp_ge (pc := 14) (off := 85) (t := 99) (ks := []) (by decide +kernel) (by omega) (by omega) (fun hc => ?_) (fun hc => ?_)
    · refine ty_iconst (pc := 99) (n := 0) (ks := []) (by decide +kernel) ?_
      -- at 100: .ireturn
      refine ty_ret_i (pc := 100) (ks := []) (ty := .boolean) (by decide +kernel) rfl (ty_fit_z (by omega)) ?_
      exact ⟨0, rfl, rfl, l, ar, g, rfl, ⟨fun _ _ => ⟨rfl, fun _ => rfl⟩, fun _ _ _ => rfl⟩, fun z => absurd (show false = true from z) (by decide)⟩
    · omega
  | succ r ih =>
    intro k p l ar g hk hp hpn
    obtain ⟨f1, f2, -⟩ := cs_cl_facts (show ty_st (cr_s S p l ar g) from r1) r5
    have e1 := cr_s_at (S := S) (p := p) (l := l) (ar := ar) (g := g)
    have haR : a ≠ (16, 0) := by
      rcases r5 with ⟨rfl, -⟩ | ⟨rfl, -⟩
      · simp
      · decide
    have e2 : (cr_s S p l ar g).1 a 0 = 48 * x := (cr_s_I (fun w => haR w.1)).trans r6
    have e3 : (cr_s S p l ar g).2.1 (16, 0) 4 = some a := r4
    have hS : ty_st (cr_s S p l ar g) := r1
    have eg : ty_sA (ty_sA (cr_s S p l ar g) (21, 0) ((48 * x + q0) * 3 + k) (48 * x + p)) (20, 0) (48 * x + q0) (k + 1) = cr_s S p l (mo_up ar (48 * x + q0) (k + 1)) (mo_up g ((48 * x + q0) * 3 + k) (48 * x + p)) := by rw [cr_s_g, cr_s_a]
    generalize hT : cr_s S p l ar g = T at e1 e2 e3 hS f1 f2 eg
    refine ty_iload_n (pc := 12) (i := 3) (ks := []) (by decide +kernel) rfl ?_
    refine ty_iconst (pc := 13) (n := 3) (ks := []) (by decide +kernel) ?_
    -- at 14: .if_icmp .ge 85
    refine ty_icmp_ge (pc := 14) (off := 85) (t := 99) (ks := []) (by decide +kernel) (by omega) (by omega) (fun hc => ?_) (fun hc => ?_)
    · omega
    clear hc
    refine ty_aload_n (pc := 17) (i := 0) (ks := []) (by decide +kernel) rfl ?_
    refine ty_getS (b := (12, 0)) (pc := 18) (idx := 18) (ci := 4) (f := 0) (by decide +kernel) (by first | rfl | assumption) rfl (by first | exact hS.1 _ _ rfl | assumption) (by first | exact hS.2.2 _ _ _ _ rfl | assumption) ?_
    refine ty_getS (b := (21, 0)) (pc := 21) (idx := 90) (ci := 1) (f := 2) (by decide +kernel) (by first | rfl | assumption) rfl (by first | exact hS.1 _ _ rfl | assumption) (by first | exact hS.2.2 _ _ _ _ rfl | assumption) ?_
    refine ty_iload_n (pc := 24) (i := 1) (ks := []) (by decide +kernel) rfl ?_
    refine ty_iconst (pc := 25) (n := 3) (ks := []) (by decide +kernel) ?_
    refine ty_imul (pc := 26) (ks := []) (by decide +kernel) ?_
    refine ty_iload_n (pc := 27) (i := 3) (ks := []) (by decide +kernel) rfl ?_
    refine ty_iadd (pc := 28) (ks := []) (by decide +kernel) ?_
    refine ty_aload_n (pc := 29) (i := 0) (ks := []) (by decide +kernel) rfl ?_
    first | refine ty_getS (pc := 30) (idx := 52) (ci := 4) (f := 4) (by decide +kernel) (by first | rfl | assumption) rfl (by first | exact hS.1 _ _ rfl | assumption) (by assumption) ?_ | (refine ty_getR (pc := 30) (idx := 52) (ci := 4) (f := 4) (by decide +kernel) (by first | rfl | assumption) rfl (by first | exact hS.1 _ _ rfl | assumption) (fun v hv => ?_); (subst hv))
    refine ty_getI (pc := 33) (idx := 68) (ci := 3) (f := 0) (by decide +kernel) (by first | rfl | assumption) rfl (by first | exact hS.1 _ _ rfl | assumption) (fun v hv => ?_)
    subst hv
    refine ty_aload_n (pc := 36) (i := 0) (ks := []) (by decide +kernel) rfl ?_
    refine ty_getI (pc := 37) (idx := 15) (ci := 4) (f := 3) (by decide +kernel) (by first | rfl | assumption) rfl (by first | exact hS.1 _ _ rfl | assumption) (fun v hv => ?_)
    subst hv
    refine ty_iadd (pc := 40) (ks := []) (by decide +kernel) ?_
    -- at 41: .iastore
    rw [e1, e2]
    refine ty_iastore (pc := 41) (ks := []) (by decide +kernel) (by first | rfl | assumption) (by rfl) (by first | exact hS.1 _ _ rfl | assumption) (by first | exact hS.2.1 _ _ _ rfl | assumption) (by omega) ?_
    refine ty_aload_n (pc := 42) (i := 0) (ks := []) (by decide +kernel) rfl ?_
    refine ty_getS (b := (12, 0)) (pc := 43) (idx := 18) (ci := 4) (f := 0) (by decide +kernel) (by first | rfl | assumption) rfl (by first | exact hS.1 _ _ rfl | assumption) (by first | exact hS.2.2 _ _ _ _ rfl | assumption) ?_
    refine ty_getS (b := (20, 0)) (pc := 46) (idx := 82) (ci := 1) (f := 1) (by decide +kernel) (by first | rfl | assumption) rfl (by first | exact hS.1 _ _ rfl | assumption) (by first | exact hS.2.2 _ _ _ _ rfl | assumption) ?_
    refine ty_iload_n (pc := 49) (i := 1) (ks := []) (by decide +kernel) rfl ?_
    refine ty_iload_n (pc := 50) (i := 3) (ks := []) (by decide +kernel) rfl ?_
    refine ty_iconst (pc := 51) (n := 1) (ks := []) (by decide +kernel) ?_
    refine ty_iadd (pc := 52) (ks := []) (by decide +kernel) ?_
    refine ty_iastore (pc := 53) (ks := []) (by decide +kernel) (by first | rfl | assumption) (by rfl) (by first | exact hS.1 _ _ rfl | assumption) (by first | exact hS.2.1 _ _ _ rfl | assumption) (by omega) ?_
    refine ty_aload_n (pc := 54) (i := 0) (ks := []) (by decide +kernel) rfl ?_
    refine ty_iload_n (pc := 55) (i := 2) (ks := []) (by decide +kernel) rfl ?_
    -- at 56: .invokevirtual 34
    rw [eg]
    clear hT e1 e2 e3 eg f1 f2 hS
    have hS : ty_st (cr_s S p l (mo_up ar (48 * x + q0) (k + 1)) (mo_up g ((48 * x + q0) * 3 + k) (48 * x + p))) := r1
    have hrd1 := hrd p l (mo_up ar (48 * x + q0) (k + 1)) (mo_up g ((48 * x + q0) * 3 + k) (48 * x + p)) (by omega) hpn
    refine ty_callv (pc := 56) (idx := 34) (m := 23) (n := 2) (c := 4) (vs := [_]) (r := []) (by decide +kernel) rfl rfl (Nat.le_of_ble_eq_true rfl) (by first | rfl | assumption) (by first | exact hS.1 _ _ rfl | assumption) hrd1 ?_
    clear hrd1
    rintro _ S1 ⟨z, rfl, hz, l1, a1, g1, rfl, hf1, hat1⟩
    refine ty_KI ?_
    obtain ⟨k1, k2, k3⟩ := hsp p (by omega) hpn
    have hzr : 0 ≤ z ∧ z ≤ 1 := by rw [hz]; split <;> omega
    have hfm : pt_fq x q0 p (pt_t (cr_h S n) m p).2.1 l ar g l1 a1 g1 := by
      refine ⟨fun i hi => ?_, fun i hi hj => ?_⟩
      · obtain ⟨y1, y2⟩ := hf1.1 i hi
        exact ⟨y1, fun hn => y2.trans (if_neg hn)⟩
      · exact (hf1.2 i hi).trans (if_neg (by omega))
    have ha1 : a1 (48 * x + q0) = k + 1 := ((hf1.1 _ (by omega)).2).trans (if_pos rfl)
    have hg1 : g1 ((48 * x + q0) * 3 + k) = 48 * x + p := (hf1.2 _ (by omega)).trans (if_pos rfl)
    have hg0 : ∀ j : Nat, j < k → g1 ((48 * x + q0) * 3 + j) = g ((48 * x + q0) * 3 + j) := fun j hj => (hf1.2 _ (by omega)).trans (if_neg (by omega))
    have step : pt_a (cr_h S n) (pt_t (cr_h S n) m) (r + 1) p = if (pt_t (cr_h S n) m p).1 = false then (false, (pt_t (cr_h S n) m p).2.1, [p], (pt_t (cr_h S n) m p).2.2)
      else if cr_h S n (pt_t (cr_h S n) m p).2.1 = 41 then (true, (pt_t (cr_h S n) m p).2.1 + 1, [p], (pt_t (cr_h S n) m p).2.2)
      else if r = 0 ∨ cr_h S n (pt_t (cr_h S n) m p).2.1 ≠ 44 then (false, (pt_t (cr_h S n) m p).2.1, [p], (pt_t (cr_h S n) m p).2.2)
      else ((pt_a (cr_h S n) (pt_t (cr_h S n) m) r ((pt_t (cr_h S n) m p).2.1 + 1)).1, (pt_a (cr_h S n) (pt_t (cr_h S n) m) r ((pt_t (cr_h S n) m p).2.1 + 1)).2.1, p :: (pt_a (cr_h S n) (pt_t (cr_h S n) m) r ((pt_t (cr_h S n) m p).2.1 + 1)).2.2.1, (pt_t (cr_h S n) m p).2.2 ++ (pt_a (cr_h S n) (pt_t (cr_h S n) m) r ((pt_t (cr_h S n) m p).2.1 + 1)).2.2.2) := rfl
    rw [step]
    clear step hf1 hrd hsp
    generalize hT : pt_t (cr_h S n) m p = T at *
    obtain ⟨ok, p1, N1⟩ := T
    simp only at hz k1 k2 k3 hat1 hfm ⊢
    cases ok with
    | false =>
      rw [if_neg (by decide)] at hz
      subst hz
      rw [if_pos rfl]
      refine ty_if_ne (pc := 59) (off := 5) (t := 64) (ks := []) (by decide +kernel) (by omega) (fun hc => ?_) (fun hc => ?_)
      · exact absurd rfl hc
      · have hS : ty_st (cr_s S p1 l1 a1 g1) := r1
        refine ty_iconst (pc := 62) (n := 0) (ks := []) (by decide +kernel) ?_
        -- at 63: .ireturn
        refine ty_ret_i (pc := 63) (ks := []) (ty := .boolean) (by decide +kernel) rfl (ty_fit_z (by omega)) ?_
        exact ⟨0, rfl, rfl, l1, a1, g1, rfl, hfm, fun w => absurd (show false = true from w) (by decide)⟩
    | true =>
      rw [if_pos rfl] at hz
      subst hz
      rw [if_neg (show ¬ (true = false) by decide)]
      obtain ⟨k4, k5, k6⟩ := k3 rfl
      have hat1 := hat1 rfl
      refine ty_if_ne (pc := 59) (off := 5) (t := 64) (ks := []) (by decide +kernel) (by omega) (fun hc => ?_) (fun hc => ?_)
      · clear hc
        have hS : ty_st (cr_s S p1 l1 a1 g1) := r1
        refine ty_aload_n (pc := 64) (i := 0) (ks := []) (by decide +kernel) rfl ?_
        refine ty_bipush (pc := 65) (n := 41) (ks := []) (by decide +kernel) (by omega) ?_
        -- at 67: .invokevirtual 38
        refine ty_callv (pc := 67) (idx := 38) (m := 27) (n := 2) (c := 4) (vs := [_]) (r := []) (by decide +kernel) rfl rfl (Nat.le_of_ble_eq_true rfl) (by first | rfl | assumption) (by first | exact hS.1 _ _ rfl | assumption) ((cr_skip (d + 1) hR0 ⟨by omega, k2⟩ (c := 41) (by decide)).deeper (by omega)) ?_
        rintro _ S2 ⟨z, rfl, ⟨rfl, hh, rfl⟩ | ⟨rfl, hh, rfl⟩⟩
        · refine ty_KI ?_
          rw [if_pos hh]
          refine ty_if_eq (pc := 70) (off := 5) (t := 75) (ks := []) (by decide +kernel) (by omega) (fun hc => ?_) (fun hc => ?_)
          · exact absurd hc (by decide)
          · refine ty_iconst (pc := 73) (n := 1) (ks := []) (by decide +kernel) ?_
            -- at 74: .ireturn
            refine ty_ret_i (pc := 74) (ks := []) (ty := .boolean) (by decide +kernel) rfl (ty_fit_z (by omega)) ?_
            refine ⟨1, rfl, rfl, l1, a1, g1, rfl, ⟨fun i hi => hfm.1 i (fun z => hi ⟨z.1, show i < 48 * x + (p1 + 1) by omega⟩), fun i hi hj => hfm.2 i (fun z => hi ⟨z.1, show i < 3 * (48 * x + (p1 + 1)) by omega⟩) hj⟩, fun _ => ⟨hat1, by show a1 (48 * x + q0) = k + 1; exact ha1, fun j b hj => ?_, hg0⟩⟩
            cases j with
            | zero =>
              simp only [List.getElem?_cons_zero, Option.some.injEq] at hj
              subst hj
              rw [show ((48 * (x : Int) + q0) * 3 + (k : Int) + ((0 : Nat) : Int)) = (48 * x + q0) * 3 + k by omega]
              exact hg1
            | succ j => simp at hj
        · refine ty_KI ?_
          rw [if_neg hh]
          refine ty_if_eq (pc := 70) (off := 5) (t := 75) (ks := []) (by decide +kernel) (by omega) (fun hc => ?_) (fun hc => ?_)
          · clear hc
            refine ty_iload_n (pc := 75) (i := 3) (ks := []) (by decide +kernel) rfl ?_
            refine ty_iconst (pc := 76) (n := 1) (ks := []) (by decide +kernel) ?_
            refine ty_iadd (pc := 77) (ks := []) (by decide +kernel) ?_
            refine ty_iconst (pc := 78) (n := 3) (ks := []) (by decide +kernel) ?_
            -- at 79: .if_icmp .eq 12
            refine ty_icmp_eq (pc := 79) (off := 12) (t := 91) (ks := []) (by decide +kernel) (by omega) (by omega) (fun hc => ?_) (fun hc => ?_)
            · have hr0 : r = 0 := by omega
              rw [if_pos (.inl hr0)]
              refine ty_iconst (pc := 91) (n := 0) (ks := []) (by decide +kernel) ?_
              -- at 92: .ireturn
              refine ty_ret_i (pc := 92) (ks := []) (ty := .boolean) (by decide +kernel) rfl (ty_fit_z (by omega)) ?_
              exact ⟨0, rfl, rfl, l1, a1, g1, rfl, hfm, fun w => absurd (show false = true from w) (by decide)⟩
            · have hr0 : r ≠ 0 := by omega
              clear hc
              refine ty_aload_n (pc := 82) (i := 0) (ks := []) (by decide +kernel) rfl ?_
              refine ty_bipush (pc := 83) (n := 44) (ks := []) (by decide +kernel) (by omega) ?_
              -- at 85: .invokevirtual 38
              refine ty_callv (pc := 85) (idx := 38) (m := 27) (n := 2) (c := 4) (vs := [_]) (r := []) (by decide +kernel) rfl rfl (Nat.le_of_ble_eq_true rfl) (by first | rfl | assumption) (by first | exact hS.1 _ _ rfl | assumption) ((cr_skip (d + 1) hR0 ⟨by omega, k2⟩ (c := 44) (by decide)).deeper (by omega)) ?_
              rintro _ S3 ⟨z, rfl, ⟨rfl, hh2, rfl⟩ | ⟨rfl, hh2, rfl⟩⟩
              · refine ty_KI ?_
                rw [if_neg (fun w => w.elim hr0 (fun y => y hh2))]
                refine ty_if_ne (pc := 88) (off := 5) (t := 93) (ks := []) (by decide +kernel) (by omega) (fun hc => ?_) (fun hc => ?_)
                · clear hc
                  have hlt : p1 < n := by
                    by_cases w : n ≤ p1
                    · rw [hnn p1 w] at hh2
                      omega
                    · omega
                  refine ty_iinc (pc := 93) (i := 3) (n := 1) (ks := []) (ls' := [_, _, _, _]) (by decide +kernel) rfl rfl ?_
                  refine ty_goto (pc := 96) (off := (-84)) (t := 12) (ks := []) (by decide +kernel) ?_
                  -- at 12: .iload_n 3
                  refine (ih (k + 1) (p1 + 1) l1 a1 g1 (by omega) (by omega) (by omega)).mono ?_
                  rintro o S4 ⟨z, rfl, hz, l2, a2, g2, rfl, hf2, hat2⟩
                  obtain ⟨s1, s2, s3, s4⟩ := pt_a_spec hnn (pt_t_spec hnn m) r (p1 + 1) (by omega) (by omega)
                  refine ⟨z, rfl, hz, l2, a2, g2, rfl, ?_, fun w => ?_⟩
                  · exact pt_fq.trans hfm hf2 ⟨by omega, show p1 ≤ (pt_a (cr_h S n) (pt_t (cr_h S n) m) r (p1 + 1)).2.1 by omega⟩
                  · obtain ⟨y1, y2, y3, y4⟩ := hat2 w
                    obtain ⟨s5, s6, s7, s8⟩ := s4 w
                    -- the earlier nodes stay
                    have keep : pt_at (cr_h S n) x l2 a2 g2 N1 := pt_at_fq hat1 k5 hf2 (by omega) hp
                    refine ⟨?_, ?_, ?_, ?_⟩
                    · intro q as hm
                      rcases List.mem_append.mp hm with w1 | w1
                      · exact keep q as w1
                      · exact y1 q as w1
                    · show a2 (48 * x + q0) = k + ((p :: (pt_a (cr_h S n) (pt_t (cr_h S n) m) r (p1 + 1)).2.2.1).length : Int)
                      rw [y2, List.length_cons]
                      omega
                    · intro j b hj
                      cases j with
                      | zero =>
                        simp only [List.getElem?_cons_zero, Option.some.injEq] at hj
                        subst hj
                        rw [show ((48 * (x : Int) + q0) * 3 + (k : Int) + ((0 : Nat) : Int)) = (48 * x + q0) * 3 + (k : Nat) by omega, y4 k (by omega)]
                        exact hg1
                      | succ j =>
                        simp only [List.getElem?_cons_succ] at hj
                        rw [show ((48 * (x : Int) + q0) * 3 + (k : Int) + ((j + 1 : Nat) : Int)) = (48 * x + q0) * 3 + ((k + 1 : Nat) : Int) + (j : Int) by omega]
                        exact y3 j b hj
                    · intro j hj
                      rw [y4 j (by omega)]
                      exact hg0 j hj
                · exact absurd hc (by decide)
              · refine ty_KI ?_
                rw [if_pos (.inr hh2)]
                refine ty_if_ne (pc := 88) (off := 5) (t := 93) (ks := []) (by decide +kernel) (by omega) (fun hc => ?_) (fun hc => ?_)
                · exact absurd rfl hc
                · refine ty_iconst (pc := 91) (n := 0) (ks := []) (by decide +kernel) ?_
                  -- at 92: .ireturn
                  refine ty_ret_i (pc := 92) (ks := []) (ty := .boolean) (by decide +kernel) rfl (ty_fit_z (by omega)) ?_
                  exact ⟨0, rfl, rfl, l1, a1, g1, rfl, hfm, fun w => absurd (show false = true from w) (by decide)⟩
          · exact absurd rfl hc
      · exact absurd hc (by decide)
end CRT
