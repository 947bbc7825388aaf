/-! The class reads a clause, a question. -/
/-- what is left alone -/
def cr_F (S S' : ty_S) (a : ai_A) (x : Nat) : Prop := ty_st S' ∧ S'.2.2.2 = S.2.2.2 ∧ (∀ b j, b ≠ (16, 0) → ¬ (b = a ∧ (j = 4 ∨ j = 6)) → S'.1 b j = S.1 b j) ∧ (∀ b j, b ≠ (16, 0) → S'.2.1 b j = S.2.1 b j) ∧
  (∀ b, b ≠ (31, x) → b ≠ (32, x) → b ≠ (33, x) → b ≠ (34, x) → b ≠ (19, 0) → b ≠ (20, 0) → b ≠ (21, 0) → b ≠ (22, 0) → S'.2.2.1 b = S.2.2.1 b) ∧ (∀ i, ¬ (48 * (x : Int) ≤ i ∧ i < 48 * x + 48) → S'.2.2.1 (19, 0) i = S.2.2.1 (19, 0) i ∧ S'.2.2.1 (20, 0) i = S.2.2.1 (20, 0) i ∧ S'.2.2.1 (22, 0) i = S.2.2.1 (22, 0) i) ∧ ∀ i, ¬ (3 * (48 * (x : Int)) ≤ i ∧ i < 3 * (48 * x + 48)) → S'.2.2.1 (21, 0) i = S.2.2.1 (21, 0) i
/-- what a text that was read well leaves -/
def cr_G (S' : ty_S) (h : Int → Int) (n : Int) (m : Nat) (a : ai_A) (x : Nat) (gs : List (Int × Int × Int)) (N : pt_N) : Prop := cs_co S' a x (48 * x) (pv_k h m 26) (gs.map (pt_abs x)) ∧ pt_at h x (S'.2.2.1 (19, 0)) (S'.2.2.1 (20, 0)) (S'.2.2.1 (21, 0)) N ∧ (∀ u : Nat, u < 26 → S'.2.2.1 (34, x) u = pv_r h m u) ∧ ∀ (i u : Nat), (i : Int) < n → u < 26 → h i = 65 + u → S'.2.2.1 (22, 0) (48 * x + i) = pv_r h m u
/-- what reading comes to -/
def cr_P (S : ty_S) (h : Int → Int) (n : Int) (m : Nat) (a : ai_A) (x : Nat) (R : Bool × Int × List (Int × Int × Int) × pt_N) : ai_O → ty_S → Prop := ty_oI fun z S' => z = (if R.1 = true then 1 else 0) ∧ cr_F S S' a x ∧ S'.1 (16, 0) 3 = R.2.1 ∧ (R.1 = true → cr_G S' h n m a x R.2.2.1 R.2.2.2)
section CRX
variable {L : Nat} {xs : Nat → Int32} {S : ty_S} {n : Int} {a : ai_A} {x : Nat}
theorem cr_begin (d : Nat) (hS : ty_st S) (hx : cs_cl a x) : ty_C L xs (d + 1) 20 [.inr (.inr (some (16, 0))), .inr (.inr (some (10, 0))), .inl (ty_J n), .inr (.inr (some a))] S (ty_oV fun S' => S' = ty_sI (ty_sR (ty_sI (ty_sI (ty_sR S (16, 0) 1 (some (10, 0))) (16, 0) 2 n) (16, 0) 3 0) (16, 0) 4 (some a)) a 4 0) := by
  refine ty_enter (ml := 4) (ls := [_, _, _, _]) rfl rfl (Nat.le_of_ble_eq_true rfl) ?_
  refine ty_aload_n (pc := 0) (i := 0) (ks := []) (by decide +kernel) rfl ?_
  refine ty_aload_n (pc := 1) (i := 1) (ks := []) (by decide +kernel) rfl ?_
  refine ty_putR (pc := 2) (idx := 48) (ci := 4) (f := 1) (by decide +kernel) (by first | rfl | assumption) rfl rfl (by first | exact hS.1 _ _ rfl | assumption) ?_
  refine ty_aload_n (pc := 5) (i := 0) (ks := []) (by decide +kernel) rfl ?_
  refine ty_iload_n (pc := 6) (i := 2) (ks := []) (by decide +kernel) rfl ?_
  refine ty_putI (pc := 7) (idx := 9) (ci := 4) (f := 2) (by decide +kernel) (by first | rfl | assumption) rfl rfl (by first | exact hS.1 _ _ rfl | assumption) ?_
  refine ty_aload_n (pc := 10) (i := 0) (ks := []) (by decide +kernel) rfl ?_
  refine ty_iconst (pc := 11) (n := 0) (ks := []) (by decide +kernel) ?_
  refine ty_putI (pc := 12) (idx := 15) (ci := 4) (f := 3) (by decide +kernel) (by first | rfl | assumption) rfl rfl (by first | exact hS.1 _ _ rfl | assumption) ?_
  refine ty_aload_n (pc := 15) (i := 0) (ks := []) (by decide +kernel) rfl ?_
  refine ty_aload_n (pc := 16) (i := 3) (ks := []) (by decide +kernel) rfl ?_
  refine ty_putR (pc := 17) (idx := 52) (ci := 4) (f := 4) (by decide +kernel) (by first | rfl | assumption) rfl rfl (by first | exact hS.1 _ _ rfl | assumption) ?_
  -- at 20: .aload_n 0
  have hST : ty_st (ty_sR (ty_sI (ty_sI (ty_sR S (16, 0) 1 (some (10, 0))) (16, 0) 2 n) (16, 0) 3 0) (16, 0) 4 (some a)) := ty_st.sR (by decide +kernel) (ty_st.sI (ty_st.sI (ty_st.sR (by decide +kernel) hS)))
  have e : (ty_sR (ty_sI (ty_sI (ty_sR S (16, 0) 1 (some (10, 0))) (16, 0) 2 n) (16, 0) 3 0) (16, 0) 4 (some a)).2.1 (16, 0) 4 = some a := by simp [ty_sR]
  obtain ⟨f1, f2, -⟩ := cs_cl_facts hST hx
  generalize ty_sR (ty_sI (ty_sI (ty_sR S (16, 0) 1 (some (10, 0))) (16, 0) 2 n) (16, 0) 3 0) (16, 0) 4 (some a) = T at hST e f2
  have hS := hST
  refine ty_aload_n (pc := 20) (i := 0) (ks := []) (by decide +kernel) rfl ?_
  first | refine ty_getS (pc := 21) (idx := 52) (ci := 4) (f := 4) (by decide +kernel) (by first | rfl | assumption) rfl (by first | exact hS.1 _ _ rfl | assumption) (by assumption) ?_ | (refine ty_getR (pc := 21) (idx := 52) (ci := 4) (f := 4) (by decide +kernel) (by first | rfl | assumption) rfl (by first | exact hS.1 _ _ rfl | assumption) (fun v hv => ?_); (subst hv))
  refine ty_iconst (pc := 24) (n := 0) (ks := []) (by decide +kernel) ?_
  refine ty_putI (pc := 25) (idx := 56) (ci := 3) (f := 4) (by decide +kernel) (by first | rfl | assumption) rfl rfl (by first | exact hS.1 _ _ rfl | assumption) ?_
  -- at 28: .return_
  refine ty_ret_v (pc := 28) (ks := []) (by decide +kernel) rfl ?_
  exact ⟨rfl, rfl⟩
/-- begun: the state as the readers want it -/
theorem cr_begun (hS : ty_st S) (hx : cs_cl a x) (hst : S.1 a 0 = 48 * x) (hn : 0 ≤ n ∧ n ≤ 48) (hch : ∀ i, 0 ≤ i → i < 48 → 0 ≤ S.2.2.1 (10, 0) i ∧ S.2.2.1 (10, 0) i ≤ 65535) {T : ty_S} (hT : T = ty_sI (ty_sR (ty_sI (ty_sI (ty_sR S (16, 0) 1 (some (10, 0))) (16, 0) 2 n) (16, 0) 3 0) (16, 0) 4 (some a)) a 4 0) :
    cr_R T n a x ∧ T.2.2 = S.2.2 ∧ (∀ b j, b ≠ (16, 0) → ¬ (b = a ∧ j = 4) → T.1 b j = S.1 b j) ∧ (∀ b j, b ≠ (16, 0) → T.2.1 b j = S.2.1 b j) ∧ cr_s (cr_b T a x 0 (T.2.2.1 (31, x)) (T.2.2.1 (32, x)) (T.2.2.1 (33, x))) 0 (T.2.2.1 (19, 0)) (T.2.2.1 (20, 0)) (T.2.2.1 (21, 0)) = T := by
  have haR := cr_cl_ne hx
  have e3 : T.2.2 = S.2.2 := by rw [hT]; rfl
  have nR : ∀ b j, b ≠ (16, 0) → T.2.1 b j = S.2.1 b j := fun b j hb => by
    rw [hT]
    simp [ty_sI, ty_sR, hb]
  have nI : ∀ b j, b ≠ (16, 0) → ¬ (b = a ∧ j = 4) → T.1 b j = S.1 b j := fun b j hb h2 => by
    rw [hT]
    simp only [ty_sI, ty_sR]
    rw [if_neg h2, if_neg (fun w => hb w.1), if_neg (fun w => hb w.1)]
  have i1 : T.1 (16, 0) 3 = 0 ∧ T.1 (16, 0) 2 = n := by
    rw [hT]
    simp [ty_sI, ty_sR, haR.symm]
  have i2 : T.1 a 4 = 0 := by rw [hT]; exact ty_sI_at
  have i3 : T.2.1 (16, 0) 1 = some (10, 0) ∧ T.2.1 (16, 0) 4 = some a := by
    rw [hT]
    simp [ty_sI, ty_sR]
  refine ⟨⟨⟨by rw [e3]; exact hS.1, by rw [e3]; exact hS.2.1, fun s i k b hb => ?_⟩, i3.1, i1.2, i3.2, hx, ?_, hn, by rw [e3]; exact hch⟩, e3, nI, nR, ?_⟩
  · by_cases e : ((s, i) : ai_A) = (16, 0)
    · cases e
      have : k = 0 := by
        unfold ty_ref ty_refL at hb
        by_cases e2 : k = 0
        · exact e2
        · exfalso
          match k, e2 with
          | 0, e2 => exact e2 rfl
          | k + 1, _ => simp at hb
      subst this
      have h0 := hS.2.2 _ _ _ _ hb
      rw [hT]
      simp [ty_sI, ty_sR]
      exact h0
    · rw [nR _ _ e]
      exact hS.2.2 s i k b hb
  · rw [nI _ _ haR (fun w => absurd w.2 (by decide))]
    exact hst
  · refine Prod.ext ?_ (Prod.ext rfl (Prod.ext ?_ rfl))
    · funext b j
      show (if b = (16, 0) ∧ j = 3 then 0 else if b = a ∧ j = 4 then 0 else T.1 b j) = T.1 b j
      by_cases e1 : b = (16, 0) ∧ j = 3
      · rw [if_pos e1, e1.1, e1.2, i1.1]
      · rw [if_neg e1]
        by_cases e2 : b = a ∧ j = 4
        · rw [if_pos e2, e2.1, e2.2, i2]
        · rw [if_neg e2]
    · funext b
      show (if b = (21, 0) then T.2.2.1 (21, 0) else if b = (20, 0) then T.2.2.1 (20, 0) else if b = (19, 0) then T.2.2.1 (19, 0) else if b = (33, x) then T.2.2.1 (33, x) else if b = (32, x) then T.2.2.1 (32, x) else if b = (31, x) then T.2.2.1 (31, x) else T.2.2.1 b) = T.2.2.1 b
      split
      · rename_i e; rw [e]
      split
      · rename_i e; rw [e]
      split
      · rename_i e; rw [e]
      split
      · rename_i e; rw [e]
      split
      · rename_i e; rw [e]
      split
      · rename_i e; rw [e]
      · rfl
/-- while it is read: what is left alone -/
theorem cr_mid {T : ty_S} (haR : a ≠ (16, 0)) (hST : ty_st T) {p : Int} (hp : p ≤ 48) {k : Int} {sg lf rt l ar g : Int → Int} (hf : pt_fr x 0 p (T.2.2.1 (19, 0)) (T.2.2.1 (20, 0)) (T.2.2.1 (21, 0)) l ar g) : cr_F T (cr_s (cr_b T a x k sg lf rt) p l ar g) a x := by
  refine ⟨hST, rfl, fun b j hb h2 => ?_, fun _ _ _ => rfl, fun b q1 q2 q3 q4 q5 q6 q7 q8 => ?_, fun i hi => ?_, fun i hi => ?_⟩
  · rw [cr_s_I (fun w => hb w.1)]
    exact ty_sI_ne (fun w => h2 ⟨w.1, .inl w.2⟩)
  · show (if b = (21, 0) then g else if b = (20, 0) then ar else if b = (19, 0) then l else if b = (33, x) then rt else if b = (32, x) then lf else if b = (31, x) then sg else T.2.2.1 b) = T.2.2.1 b
    rw [if_neg q7, if_neg q6, if_neg q5, if_neg q3, if_neg q2, if_neg q1]
  · obtain ⟨y1, y2⟩ := hf.1 i (by omega)
    exact ⟨y1, y2, rfl⟩
  · exact hf.2 i (by omega)
theorem cr_F.trans {S1 S2 : ty_S} (h : cr_F S S1 a x) (h' : cr_F S1 S2 a x) : cr_F S S2 a x := by
  obtain ⟨a1, a2, a3, a4, a5, a6, a7⟩ := h
  obtain ⟨b1, b2, b3, b4, b5, b6, b7⟩ := h'
  exact ⟨b1, b2.trans a2, fun b j h1 h2 => (b3 b j h1 h2).trans (a3 b j h1 h2), fun b j h1 => (b4 b j h1).trans (a4 b j h1), fun b q1 q2 q3 q4 q5 q6 q7 q8 => (b5 b q1 q2 q3 q4 q5 q6 q7 q8).trans (a5 b q1 q2 q3 q4 q5 q6 q7 q8), fun i hi => ⟨(b6 i hi).1.trans (a6 i hi).1, (b6 i hi).2.1.trans (a6 i hi).2.1, (b6 i hi).2.2.trans (a6 i hi).2.2⟩, fun i hi => (b7 i hi).trans (a7 i hi)⟩
theorem cr_F.begun {T : ty_S} (hT : ty_st T) (e3 : T.2.2 = S.2.2) (nI : ∀ b j, b ≠ (16, 0) → ¬ (b = a ∧ j = 4) → T.1 b j = S.1 b j) (nR : ∀ b j, b ≠ (16, 0) → T.2.1 b j = S.2.1 b j) : cr_F S T a x :=
  ⟨hT, by rw [e3], fun b j h1 h2 => nI b j h1 (fun w => h2 ⟨w.1, .inl w.2⟩), nR, fun b _ _ _ _ _ _ _ _ => by rw [e3], fun i _ => by rw [e3]; exact ⟨rfl, rfl, rfl⟩, fun i _ => by rw [e3]⟩
/-- ranked: all is there -/
theorem cr_done (hR : cr_R S n a x) {m : Nat} (hnm : n = m) {p : Int} (hp : p ≤ 48) {gs : List (Int × Int × Int)} (hgl : gs.length ≤ 24) {N : pt_N} (hgk : ∀ g ∈ gs, pt_gk N g) {sg lf rt l ar g : Int → Int} (hga : pt_ga x 0 sg lf rt gs) (hat : pt_at (cr_h S n) x l ar g N) {f R : Int → Int}
    (h1 : ∀ u : Nat, u < 26 → f u = pv_r (cr_h S n) m u) (h2 : ∀ j, ¬ (48 * (x : Int) ≤ j ∧ j < 48 * x + n) → R j = S.2.2.1 (22, 0) j) (h3 : ∀ (i u : Nat), (i : Int) < n → u < 26 → cr_h S n i = 65 + u → R (48 * x + i) = pv_r (cr_h S n) m u) :
    cr_F (cr_s (cr_b S a x gs.length sg lf rt) p l ar g) (cr_k (cr_s (cr_b S a x gs.length sg lf rt) p l ar g) x a f (pv_k (cr_h S n) m 26) R) a x ∧ (cr_k (cr_s (cr_b S a x gs.length sg lf rt) p l ar g) x a f (pv_k (cr_h S n) m 26) R).1 (16, 0) 3 = p ∧ cr_G (cr_k (cr_s (cr_b S a x gs.length sg lf rt) p l ar g) x a f (pv_k (cr_h S n) m 26) R) (cr_h S n) n m a x gs N := by
  have haR := cr_cl_ne hR.2.2.2.2.1
  have hn48 := hR.2.2.2.2.2.2.1
  have eA : ∀ b, (cr_k (cr_s (cr_b S a x gs.length sg lf rt) p l ar g) x a f (pv_k (cr_h S n) m 26) R).2.2.1 b = if b = (22, 0) then R else if b = (34, x) then f else if b = (21, 0) then g else if b = (20, 0) then ar else if b = (19, 0) then l else if b = (33, x) then rt else if b = (32, x) then lf else if b = (31, x) then sg else S.2.2.1 b := fun _ => rfl
  refine ⟨⟨hR.1, rfl, fun b j hb q => ?_, fun _ _ _ => rfl, fun b q1 q2 q3 q4 q5 q6 q7 q8 => ?_, fun i hi => ⟨?_, ?_, ?_⟩, fun i hi => ?_⟩, ?_, ⟨?_, ?_, ?_, ⟨by rw [List.length_map]; exact hgl, fun i g0 hi => ?_⟩⟩, ?_, ?_, ?_⟩
  · exact cr_k_I (fun w => q ⟨w.1, .inr w.2⟩)
  · show (if b = (22, 0) then R else if b = (34, x) then f else (cr_s (cr_b S a x gs.length sg lf rt) p l ar g).2.2.1 b) = _
    rw [if_neg q8, if_neg q4]
  · rfl
  · rfl
  · exact h2 i (by omega)
  · rfl
  · rw [cr_k_I (fun w => haR w.1.symm)]
    exact cr_s_at
  · rw [cr_k_I (fun w => absurd w.2 (by decide)), cr_s_I (fun w => haR w.1)]
    exact (cr_b_R hR).2.2.2.2.2.1
  · exact cr_k_V
  · rw [cr_k_I (fun w => absurd w.2 (by decide)), cr_s_I (fun w => haR w.1), List.length_map]
    exact ty_sI_at
  · rw [List.getElem?_map] at hi
    cases hg : gs[i]? with
    | none => rw [hg] at hi; cases hi
    | some g1 =>
      rw [hg] at hi
      simp only [Option.map_some, Option.some.injEq] at hi
      subst hi
      have := hga i g1 hg
      rw [show (0 : Int) + (i : Int) = i by omega] at this
      have hmem : g1 ∈ gs := List.mem_of_getElem? hg
      have hr : 0 ≤ (pt_abs x g1).1 ∧ (pt_abs x g1).1 ≤ 65535 := by
        have e : (pt_abs x g1).1 = g1.1 := by
          unfold pt_abs
          by_cases e33 : g1.1 = 33
          · rw [if_pos e33]; exact e33.symm
          · rw [if_neg e33]
        rw [e]
        rcases hgk g1 hmem with z | ⟨z, -⟩ <;> omega
      rw [eA, eA, eA]
      simp only [Prod.mk.injEq, reduceCtorEq, if_neg, if_pos]
      simp
      exact ⟨⟨this.1, hr⟩, this.2⟩
  · rw [eA, eA, eA]
    simp
    exact hat
  · rw [eA]
    simp
    exact h1
  · rw [eA]
    simp
    exact h3
theorem cr_readQuestion (d : Nat) (hS : ty_st S) (hx : cs_cl a x) (hst : S.1 a 0 = 48 * x) {m : Nat} (hnm : n = m) (hn : 0 ≤ n ∧ n ≤ 48) (hch : ∀ i, 0 ≤ i → i < 48 → 0 ≤ S.2.2.1 (10, 0) i ∧ S.2.2.1 (10, 0) i ≤ 65535) (hnz : ∀ i, 0 ≤ i → i < n → S.2.2.1 (10, 0) i ≠ 0) :
    ty_C L xs (d + 15) 37 [.inr (.inr (some (16, 0))), .inr (.inr (some (10, 0))), .inl (ty_J n), .inr (.inr (some a))] S (cr_P S (cr_h S n) n m a x (pt_gs (cr_h S n) 24 0)) := by
  have haR := cr_cl_ne hx
  refine ty_enter (ml := 4) (ls := [_, _, _, _]) rfl rfl (Nat.le_of_ble_eq_true rfl) ?_
  refine ty_aload_n (pc := 0) (i := 0) (ks := []) (by decide +kernel) rfl ?_
  refine ty_aload_n (pc := 1) (i := 1) (ks := []) (by decide +kernel) rfl ?_
  refine ty_iload_n (pc := 2) (i := 2) (ks := []) (by decide +kernel) rfl ?_
  refine ty_aload_n (pc := 3) (i := 3) (ks := []) (by decide +kernel) rfl ?_
  -- at 4: .invokevirtual 22
  refine ty_callv (pc := 4) (idx := 22) (m := 20) (n := 4) (c := 4) (vs := [_, _, _]) (r := []) (by decide +kernel) rfl rfl (Nat.le_of_ble_eq_true rfl) (by first | rfl | assumption) (by first | exact hS.1 _ _ rfl | assumption) ((cr_begin (n := n) (d + 13) hS hx).deeper (by omega)) ?_
  rintro _ T ⟨rfl, hT⟩
  refine ty_KV ?_
  obtain ⟨hR, e3, nI, nR, eT⟩ := cr_begun hS hx hst hn hch hT
  have hhT : cr_h T n = cr_h S n := by unfold cr_h; rw [e3]
  have hFT : cr_F S T a x := cr_F.begun hR.1 e3 nI nR
  have hnzT : ∀ i, 0 ≤ i → i < n → T.2.2.1 (10, 0) i ≠ 0 := by rw [e3]; exact hnz
  clear hT
  have hG := cr_readGoals (L := L) (xs := xs) d hR hnzT (p := 0) (sg := T.2.2.1 (31, x)) (lf := T.2.2.1 (32, x)) (rt := T.2.2.1 (33, x)) (l := T.2.2.1 (19, 0)) (ar := T.2.2.1 (20, 0)) (g := T.2.2.1 (21, 0)) ⟨Int.le_refl _, hn.1⟩
  rw [eT] at hG
  obtain ⟨s1, s2, s3, s4⟩ := pt_gs_spec (h := cr_h T n) (n := n) (fun p hp => cr_h_n hp) 24 0 (Int.le_refl _) hn.1
  rw [← hhT]
  have hS := hR.1
  refine ty_aload_n (pc := 7) (i := 0) (ks := []) (by decide +kernel) rfl ?_
  -- at 8: .invokevirtual 41
  refine ty_callv (pc := 8) (idx := 41) (m := 28) (n := 1) (c := 4) (vs := []) (r := []) (by decide +kernel) rfl rfl (Nat.le_of_ble_eq_true rfl) (by first | rfl | assumption) (by first | exact hS.1 _ _ rfl | assumption) hG ?_
  rintro _ S1 ⟨z, rfl, hz, k', sg, lf, rt, l, ar, g, rfl, hf, -, hok⟩
  refine ty_KI ?_
  generalize pt_gs (cr_h T n) 24 0 = Rr at hz hf hok s1 s2 s3 s4
  obtain ⟨ok, p', gs, N⟩ := Rr
  simp only at hz hf hok s1 s2 s3 s4
  have hmid : cr_F T (cr_s (cr_b T a x k' sg lf rt) p' l ar g) a x := cr_mid haR hR.1 (by omega) hf
  cases ok with
  | false =>
    rw [if_neg (by decide)] at hz
    subst hz
    refine ty_if_ne (pc := 11) (off := 5) (t := 16) (ks := []) (by decide +kernel) (by omega) (fun hc => ?_) (fun hc => ?_)
    · exact absurd rfl hc
    · refine ty_iconst (pc := 14) (n := 0) (ks := []) (by decide +kernel) ?_
      -- at 15: .ireturn
      refine ty_ret_i (pc := 15) (ks := []) (ty := .boolean) (by decide +kernel) rfl (ty_fit_z (by omega)) ?_
      exact ⟨0, rfl, rfl, hFT.trans hmid, cr_s_at, fun w => absurd (show false = true from w) (by decide)⟩
  | true =>
    rw [if_pos rfl] at hz
    subst hz
    obtain ⟨w1, w2, w3⟩ := hok rfl
    obtain ⟨v1, v2, v3, v4, v5⟩ := s4 rfl
    rw [show (0 : Int) + (gs.length : Int) = gs.length by omega] at w1
    subst w1
    have hRU : cr_R (cr_s (cr_b T a x gs.length sg lf rt) p' l ar g) n a x := by
      obtain ⟨r1, r2, r3, r4, r5, r6, r7, r8⟩ := cr_b_R hR (k := gs.length) (sg := sg) (lf := lf) (rt := rt)
      exact ⟨r1, r2, (cr_s_I (by decide)).trans r3, r4, r5, (cr_s_I (fun w => haR w.1)).trans r6, r7, r8⟩
    refine ty_if_ne (pc := 11) (off := 5) (t := 16) (ks := []) (by decide +kernel) (by omega) (fun hc => ?_) (fun hc => ?_)
    · have hS := hRU.1
      refine ty_aload_n (pc := 16) (i := 0) (ks := []) (by decide +kernel) rfl ?_
      -- at 17: .invokevirtual 45
      refine ty_callv (pc := 17) (idx := 45) (m := 31) (n := 1) (c := 4) (vs := []) (r := []) (by decide +kernel) rfl rfl (Nat.le_of_ble_eq_true rfl) (by first | rfl | assumption) (by first | exact hS.1 _ _ rfl | assumption) ((cr_rankVariables (d + 12) hRU hnm).deeper (by omega)) ?_
      rintro _ S2 ⟨rfl, f, R, rfl, t1, t2, t3⟩
      refine ty_KV ?_
      have hh2 : cr_h (cr_s (cr_b T a x gs.length sg lf rt) p' l ar g) n = cr_h T n := rfl
      rw [hh2] at t1 t3 ⊢
      obtain ⟨u1, u2, u3⟩ := cr_done hR hnm (p := p') (by omega) s3 v5 w2 w3 t1 t2 t3
      have hS := u1.1
      refine ty_iconst (pc := 20) (n := 1) (ks := []) (by decide +kernel) ?_
      -- at 21: .ireturn
      refine ty_ret_i (pc := 21) (ks := []) (ty := .boolean) (by decide +kernel) rfl (ty_fit_z (by omega)) ?_
      exact ⟨1, rfl, rfl, (hFT.trans hmid).trans u1, u2, fun _ => u3⟩
    · exact absurd hc (by decide)
end CRX
