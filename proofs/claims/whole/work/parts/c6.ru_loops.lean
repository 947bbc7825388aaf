/-! The reference's unify: its loops. -/
section RUL
variable {L : Nat} {xs : Nat → Int32} {S : ty_S} {G : mo_G} {ta : Int → Int} {nc : Int}
/-- one chain of those that woke goes into order -/
theorem ru_inner (d : Nat) (hS : ty_st S) {I : Nat → Int} {A : Nat → Int → Int} {Q : ai_O → ty_S → Prop} {b i : Int} : ∀ (l : List Int) (n p : Int) (O : Int → Int) (done : List Int), n = done.length → n + l.length ≤ 600 → (∀ e ∈ l, 0 ≤ e ∧ e < 1200) → mo_at O 0 (done.map (A 73)) → mo_lnk (A 74) p l → -1 ≤ p →
    (∀ O' (x4 : Int32), mo_at O' 0 ((done ++ l).map (A 73)) → ty_W L xs d 131 62 [some (.inr (.inr (some (94, 0)))), some (.inl (ty_J b)), some (.inl (ty_J (n + l.length))), some (.inl (ty_J i)), some (.inl x4)] [] (rm_s S I (rm_a A 81 O')) Q) →
    ty_W L xs d 131 29 [some (.inr (.inr (some (94, 0)))), some (.inl (ty_J b)), some (.inl (ty_J n)), some (.inl (ty_J i)), some (.inl (ty_J p))] [] (rm_s S I (rm_a A 81 O)) Q := by
  intro l
  induction l with
  | nil =>
    intro n p O done hn hr he hO hl hp cont
    have hl : p = -1 := hl
    refine ty_iload (pc := 29) (i := 4) (ks := []) (by decide +kernel) rfl ?_
    -- at 31: .ifCond .lt 31
    refine ty_if_lt (pc := 31) (off := 31) (t := 62) (ks := []) (by decide +kernel) (by omega) (fun hc => ?_) (fun hc => ?_)
    · have := cont O (ty_J p) (by rw [List.append_nil]; exact hO)
      simp only [List.length_nil] at this
      rw [show n + ((0 : Nat) : Int) = n by omega] at this
      exact this
    · omega
  | cons e l ih =>
    intro n p O done hn hr he hO hl hp cont
    obtain ⟨rfl, h0, hl⟩ := hl
    have her := he p List.mem_cons_self
    rw [List.length_cons] at hr
    have hs : ∀ O j, (rm_a A 81 O) 73 j = A 73 j := fun O j => rfl
    have hx : ∀ O j, (rm_a A 81 O) 74 j = A 74 j := fun O j => rfl
    refine ty_iload (pc := 29) (i := 4) (ks := []) (by decide +kernel) rfl ?_
    -- at 31: .ifCond .lt 31
    refine ty_if_lt (pc := 31) (off := 31) (t := 62) (ks := []) (by decide +kernel) (by omega) (fun hc => ?_) (fun hc => ?_)
    · omega
    clear hc
    refine ty_aload_n (pc := 34) (i := 0) (ks := []) (by decide +kernel) rfl ?_
    refine ty_getS (b := (81, 0)) (pc := 35) (idx := 99) (ci := 13) (f := 51) (by decide +kernel) (by first | rfl | assumption) rfl (by first | exact hS.1 _ _ rfl | assumption) (by first | exact hS.2.2 _ _ _ _ rfl | assumption) ?_
    refine ty_iload_n (pc := 38) (i := 2) (ks := []) (by decide +kernel) rfl ?_
    refine ty_aload_n (pc := 39) (i := 0) (ks := []) (by decide +kernel) rfl ?_
    refine ty_getS (b := (73, 0)) (pc := 40) (idx := 75) (ci := 13) (f := 43) (by decide +kernel) (by first | rfl | assumption) rfl (by first | exact hS.1 _ _ rfl | assumption) (by first | exact hS.2.2 _ _ _ _ rfl | assumption) ?_
    refine ty_iload (pc := 43) (i := 4) (ks := []) (by decide +kernel) rfl ?_
    refine ty_iaload (pc := 45) (ks := []) (by decide +kernel) (by first | rfl | assumption) (by rfl) (by first | exact hS.1 _ _ rfl | assumption) (by first | exact hS.2.1 _ _ _ rfl | assumption) (by omega) (fun v hv => ?_)
    rw [rm_A (by decide)] at hv
    first | (simp (decide := true) only [rm_w, ty_sI, ty_sR, ty_sA, ty_sQ, ty_mA, ty_mQ, ↓reduceIte, false_and, and_false, true_and, and_true, and_self] at hv) | skip
    subst hv
    refine ty_iastore (pc := 46) (ks := []) (by decide +kernel) (by first | rfl | assumption) (by rfl) (by first | exact hS.1 _ _ rfl | assumption) (by first | exact hS.2.1 _ _ _ rfl | assumption) (by omega) ?_
    rw [rm_sA (by decide)]
    -- at 47: .iinc 2 1
    rw [hs, rm_w_a]
    refine ty_iinc (pc := 47) (i := 2) (n := 1) (ks := []) (ls' := [_, _, _, _, _]) (by decide +kernel) rfl rfl ?_
    refine ty_aload_n (pc := 50) (i := 0) (ks := []) (by decide +kernel) rfl ?_
    refine ty_getS (b := (74, 0)) (pc := 51) (idx := 78) (ci := 13) (f := 44) (by decide +kernel) (by first | rfl | assumption) rfl (by first | exact hS.1 _ _ rfl | assumption) (by first | exact hS.2.2 _ _ _ _ rfl | assumption) ?_
    refine ty_iload (pc := 54) (i := 4) (ks := []) (by decide +kernel) rfl ?_
    refine ty_iaload (pc := 56) (ks := []) (by decide +kernel) (by first | rfl | assumption) (by rfl) (by first | exact hS.1 _ _ rfl | assumption) (by first | exact hS.2.1 _ _ _ rfl | assumption) (by omega) (fun v hv => ?_)
    rw [rm_A (by decide)] at hv
    first | (simp (decide := true) only [rm_w, ty_sI, ty_sR, ty_sA, ty_sQ, ty_mA, ty_mQ, ↓reduceIte, false_and, and_false, true_and, and_true, and_self] at hv) | skip
    subst hv
    -- at 57: .istore 4
    rw [hx]
    refine ty_istore (pc := 57) (i := 4) (ks := []) (ls' := [_, _, _, _, _]) (by decide +kernel) rfl ?_
    refine ty_goto (pc := 59) (off := (-30)) (t := 29) (ks := []) (by decide +kernel) ?_
    -- at 29: .iload 4
    have hnext : -1 ≤ A 74 p := by
      cases l with
      | nil =>
        have hl : A 74 p = -1 := hl
        omega
      | cons c cs =>
        have := hl.1
        have := hl.2.1
        omega
    refine ih (n + 1) _ _ (done ++ [p]) (by rw [List.length_append]; simp only [List.length_cons, List.length_nil]; omega) (by omega) (fun c hc => he c (List.mem_cons_of_mem _ hc)) ?_ hl hnext (fun O' x4 hO' => ?_)
    · rw [List.map_append]
      refine mo_at_app.mpr ⟨mo_at_eq (fun j j0 j1 => ?_) hO, ?_, trivial⟩
      · rw [List.length_map] at j1
        exact if_neg (by omega)
      · rw [List.length_map, show (0 : Int) + (done.length : Int) = n by omega]
        exact if_pos rfl
    · rw [List.append_assoc] at hO'
      have := cont O' x4 hO'
      rw [List.length_cons, show n + ((l.length + 1 : Nat) : Int) = n + 1 + (l.length : Int) by omega] at this
      exact this
theorem ru_outer (d : Nat) (hS : ty_st S) {I : Nat → Int} {A : Nat → Int → Int} {Q : ai_O → ty_S → Prop} {b : Int} {wk : List Int} {N : Nat} (hN : I 37 = N) (hNr : N ≤ 500) (hwl : wk.length ≤ 500) (hwr : ∀ e ∈ wk, 0 ≤ e ∧ e < 1200) : ∀ (Ls : List (List Int)) (i : Nat) (n : Int) (O : Int → Int) (done : List Int) (x4 : Option Int32), i + Ls.length = N → n = done.length → done ++ Ls.flatten = wk → (∀ (j : Nat) (l : List Int), Ls[j]? = some l → mo_lnk (A 74) (A 80 (i + j : Nat)) l) → mo_at O 0 (done.map (A 73)) →
    (∀ O' (x3 : Int32) (x4 : Option Int32), mo_at O' 0 (wk.map (A 73)) → ty_W L xs d 131 68 [some (.inr (.inr (some (94, 0)))), some (.inl (ty_J b)), some (.inl (ty_J wk.length)), some (.inl x3), x4.map .inl] [] (rm_s S I (rm_a A 81 O')) Q) →
    ty_W L xs d 131 13 [some (.inr (.inr (some (94, 0)))), some (.inl (ty_J b)), some (.inl (ty_J n)), some (.inl (ty_J i)), x4.map .inl] [] (rm_s S I (rm_a A 81 O)) Q := by
  intro Ls
  induction Ls with
  | nil =>
    intro i n O done x4 hi hn hf hl hO cont
    rw [List.length_nil] at hi
    rw [List.flatten_nil, List.append_nil] at hf
    subst hf
    refine ty_iload_n (pc := 13) (i := 3) (ks := []) (by decide +kernel) rfl ?_
    refine ty_aload_n (pc := 14) (i := 0) (ks := []) (by decide +kernel) rfl ?_
    refine ty_getI (pc := 15) (idx := 234) (ci := 13) (f := 37) (by decide +kernel) (by first | rfl | assumption) rfl (by first | exact hS.1 _ _ rfl | assumption) (fun v hv => ?_)
    simp (decide := true) only [rm_I, rm_u, rm_w, ty_sI, ty_sR, ty_sA, ty_sQ, ty_mA, ty_mQ, ↓reduceIte, false_and, and_false, true_and, and_true, and_self] at hv
    subst hv
    -- at 18: .if_icmp .ge 50
    rw [hN]
    refine ty_icmp_ge (pc := 18) (off := 50) (t := 68) (ks := []) (by decide +kernel) (by omega) (by omega) (fun hc => ?_) (fun hc => ?_)
    · rw [hn]
      exact cont O _ _ hO
    · omega
  | cons l Ls ih =>
    intro i n O done x4 hi hn hf hl hO cont
    rw [List.length_cons] at hi
    have hl0 := hl 0 l rfl
    rw [Nat.add_zero] at hl0
    have hll : done.length + l.length ≤ wk.length := by
      rw [← hf, List.length_append, List.flatten_cons, List.length_append]
      omega
    have hw : ∀ j, (rm_a A 81 O) 80 j = A 80 j := fun j => rfl
    have hp : -1 ≤ A 80 (i : Int) := by
      cases l with
      | nil =>
        have hl0 : A 80 (i : Int) = -1 := hl0
        omega
      | cons c cs =>
        have := hl0.1
        have := hl0.2.1
        omega
    refine ty_iload_n (pc := 13) (i := 3) (ks := []) (by decide +kernel) rfl ?_
    refine ty_aload_n (pc := 14) (i := 0) (ks := []) (by decide +kernel) rfl ?_
    refine ty_getI (pc := 15) (idx := 234) (ci := 13) (f := 37) (by decide +kernel) (by first | rfl | assumption) rfl (by first | exact hS.1 _ _ rfl | assumption) (fun v hv => ?_)
    simp (decide := true) only [rm_I, rm_u, rm_w, ty_sI, ty_sR, ty_sA, ty_sQ, ty_mA, ty_mQ, ↓reduceIte, false_and, and_false, true_and, and_true, and_self] at hv
    subst hv
    -- at 18: .if_icmp .ge 50
    rw [hN]
    refine ty_icmp_ge (pc := 18) (off := 50) (t := 68) (ks := []) (by decide +kernel) (by omega) (by omega) (fun hc => ?_) (fun hc => ?_)
    · omega
    clear hc
    refine ty_aload_n (pc := 21) (i := 0) (ks := []) (by decide +kernel) rfl ?_
    refine ty_getS (b := (80, 0)) (pc := 22) (idx := 96) (ci := 13) (f := 50) (by decide +kernel) (by first | rfl | assumption) rfl (by first | exact hS.1 _ _ rfl | assumption) (by first | exact hS.2.2 _ _ _ _ rfl | assumption) ?_
    refine ty_iload_n (pc := 25) (i := 3) (ks := []) (by decide +kernel) rfl ?_
    refine ty_iaload (pc := 26) (ks := []) (by decide +kernel) (by first | rfl | assumption) (by rfl) (by first | exact hS.1 _ _ rfl | assumption) (by first | exact hS.2.1 _ _ _ rfl | assumption) (by omega) (fun v hv => ?_)
    rw [rm_A (by decide)] at hv
    first | (simp (decide := true) only [rm_w, ty_sI, ty_sR, ty_sA, ty_sQ, ty_mA, ty_mQ, ↓reduceIte, false_and, and_false, true_and, and_true, and_self] at hv) | skip
    subst hv
    -- at 27: .istore 4
    rw [hw]
    refine ty_istore (pc := 27) (i := 4) (ks := []) (ls' := [_, _, _, _, _]) (by decide +kernel) rfl ?_
    -- at 29: .iload 4
    refine ru_inner d hS l n _ O done hn (by omega) (fun e he => hwr e (by rw [← hf, List.flatten_cons]; simp [he])) hO hl0 hp (fun O' x4 hO' => ?_)
    refine ty_iinc (pc := 62) (i := 3) (n := 1) (ks := []) (ls' := [_, _, _, _, _]) (by decide +kernel) rfl rfl ?_
    refine ty_goto (pc := 65) (off := (-52)) (t := 13) (ks := []) (by decide +kernel) ?_
    -- at 13: .iload_n 3
    have := ih (i + 1) (n + l.length) O' (done ++ l) (some x4) (by omega) (by rw [List.length_append]; omega) (by rw [List.append_assoc, ← List.flatten_cons]; exact hf) (fun j m hj => by
      have := hl (j + 1) m (by simpa using hj)
      rw [show i + (j + 1) = i + 1 + j by omega] at this
      exact this) hO' cont
    rw [show ((i + 1 : Nat) : Int) = (i : Int) + 1 by omega] at this
    exact this
/-- those that woke stand in front -/
theorem ru_goals (d : Nat) (hS : ty_st S) {sl : Int → Int} {A0 : Nat → Int → Int} {ng : Int} {wk : List Int} {b : Int32} {nn : Int32} {Q : ai_O → ty_S → Prop} {tdl : List mo_Go} (hng : 0 ≤ ng ∧ ng + 600 ≤ 14000) (hwl : wk.length ≤ 500) (hsl : ∀ e ∈ wk, 0 ≤ A0 73 e ∧ rm_t G ta nc (A0 73 e) (sl e)) (hO : mo_at (A0 81) 0 (wk.map (A0 73))) :
    ∀ (m : Nat) (w1 w2 : List Int) (I : Nat → Int) (A : Nat → Int → Int) (to : Int), w1.length = m → w1 ++ w2 = wk → I 28 = ng + w2.length → (∀ q, q ≠ 66 → q ≠ 67 → q ≠ 68 → q ≠ 69 → q ≠ 70 → A q = A0 q) → (∀ g, 0 ≤ g → g < ng → A 66 g = A0 66 g ∧ A 67 g = A0 67 g ∧ A 68 g = A0 68 g ∧ A 69 g = A0 69 g ∧ A 70 g = A0 70 g) → rm_td G ta nc A (ng + w2.length) to (mo_wg sl w2 ++ tdl) →
      (∀ I' A' to', (∀ k, k ≠ 28 → I' k = I k) → I' 28 = ng + wk.length → (∀ q, q ≠ 66 → q ≠ 67 → q ≠ 68 → q ≠ 69 → q ≠ 70 → A' q = A0 q) → (∀ g, 0 ≤ g → g < ng → A' 66 g = A0 66 g ∧ A' 67 g = A0 67 g ∧ A' 68 g = A0 68 g ∧ A' 69 g = A0 69 g ∧ A' 70 g = A0 70 g) → rm_td G ta nc A' (ng + wk.length) to' (mo_wg sl wk ++ tdl) → Q (.inl (some (.inl (ty_J 1)))) (rm_s S (rm_u I' 29 to') A')) →
      ty_W L xs (d + 1) 131 163 [some (.inr (.inr (some (94, 0)))), some (.inl b), some (.inl nn), some (.inl (ty_J to)), some (.inl (ty_J ((m : Int) - 1)))] [] (rm_s S I A) Q := by
  intro m
  induction m with
  | zero =>
    intro w1 w2 I A to hm hww hI hA hg htd cont
    have hw1 : w1 = [] := List.length_eq_zero_iff.mp hm
    rw [hw1, List.nil_append] at hww
    subst hww
    refine ty_iload (pc := 163) (i := 4) (ks := []) (by decide +kernel) rfl ?_
    -- at 165: .ifCond .lt 25
    refine ty_if_lt (pc := 165) (off := 25) (t := 190) (ks := []) (by decide +kernel) (by omega) (fun hc => ?_) (fun hc => ?_)
    · refine ty_aload_n (pc := 190) (i := 0) (ks := []) (by decide +kernel) rfl ?_
      refine ty_iload_n (pc := 191) (i := 3) (ks := []) (by decide +kernel) rfl ?_
      refine ty_putI (pc := 192) (idx := 270) (ci := 13) (f := 29) (by decide +kernel) (by first | rfl | assumption) rfl rfl (by first | exact hS.1 _ _ rfl | assumption) ?_
      rw [rm_sI]
      refine ty_iconst (pc := 195) (n := 1) (ks := []) (by decide +kernel) ?_
      -- at 196: .ireturn
      refine ty_ret_i (pc := 196) (ks := []) (ty := .boolean) (by decide +kernel) rfl (ty_fit_z (by omega)) ?_
      exact cont I A to (fun _ _ => rfl) hI hA hg htd
    · omega
  | succ m ih =>
    intro w1 w2 I A to hm hww hI hA hg htd cont
    obtain ⟨v, e, hv⟩ : ∃ v e, w1 = v ++ [e] := ⟨w1.dropLast, w1.getLast (by intro z; rw [z] at hm; simp at hm), (List.dropLast_concat_getLast _).symm⟩
    subst hv
    rw [List.length_append] at hm
    simp only [List.length_cons, List.length_nil] at hm
    rw [List.append_assoc] at hww
    have hl : wk.length = v.length + 1 + w2.length := by
      rw [← hww, List.length_append, List.length_append]
      simp only [List.length_cons, List.length_nil]
      omega
    have hmem : e ∈ wk := by rw [← hww]; simp
    have hord : A 81 (m : Int) = A0 73 e := by
      rw [hA _ (by decide) (by decide) (by decide) (by decide) (by decide)]
      rw [← hww, List.map_append] at hO
      have := (mo_at_app.mp hO).2
      rw [List.length_map, show (0 : Int) + (v.length : Int) = (m : Int) by omega] at this
      exact this.1
    obtain ⟨s1, s2⟩ := hsl e hmem
    rw [show ((m + 1 : Nat) : Int) - 1 = (m : Int) by omega]
    refine ty_iload (pc := 163) (i := 4) (ks := []) (by decide +kernel) rfl ?_
    -- at 165: .ifCond .lt 25
    refine ty_if_lt (pc := 165) (off := 25) (t := 190) (ks := []) (by decide +kernel) (by omega) (fun hc => ?_) (fun hc => ?_)
    · omega
    clear hc
    refine ty_aload_n (pc := 168) (i := 0) (ks := []) (by decide +kernel) rfl ?_
    refine ty_iconst (pc := 169) (n := 1) (ks := []) (by decide +kernel) ?_
    refine ty_aload_n (pc := 170) (i := 0) (ks := []) (by decide +kernel) rfl ?_
    refine ty_getS (b := (81, 0)) (pc := 171) (idx := 99) (ci := 13) (f := 51) (by decide +kernel) (by first | rfl | assumption) rfl (by first | exact hS.1 _ _ rfl | assumption) (by first | exact hS.2.2 _ _ _ _ rfl | assumption) ?_
    refine ty_iload (pc := 174) (i := 4) (ks := []) (by decide +kernel) rfl ?_
    refine ty_iaload (pc := 176) (ks := []) (by decide +kernel) (by first | rfl | assumption) (by rfl) (by first | exact hS.1 _ _ rfl | assumption) (by first | exact hS.2.1 _ _ _ rfl | assumption) (by omega) (fun v hv => ?_)
    rw [rm_A (by decide)] at hv
    first | (simp (decide := true) only [rm_w, ty_sI, ty_sR, ty_sA, ty_sQ, ty_mA, ty_mQ, ↓reduceIte, false_and, and_false, true_and, and_true, and_self] at hv) | skip
    subst hv
    refine ty_iconst (pc := 177) (n := 0) (ks := []) (by decide +kernel) ?_
    refine ty_iconst (pc := 178) (n := 0) (ks := []) (by decide +kernel) ?_
    refine ty_iload_n (pc := 179) (i := 3) (ks := []) (by decide +kernel) rfl ?_
    -- at 180: .invokevirtual 212
    rw [hord]
    refine ty_callv (pc := 180) (idx := 212) (m := 120) (n := 6) (c := 13) (vs := [_, _, _, _, _]) (r := []) (by decide +kernel) rfl rfl (Nat.le_of_ble_eq_true rfl) (by first | rfl | assumption) (by first | exact hS.1 _ _ rfl | assumption) (rm_goal (L := L) (xs := xs) _ hS hI ⟨by omega, by omega⟩) ?_
    rintro _ S1 ⟨z, rfl, rfl, rfl⟩
    refine ty_KI ?_
    refine ty_istore_n (pc := 183) (i := 3) (ks := []) (ls' := [_, _, _, _, _]) (by decide +kernel) rfl ?_
    refine ty_iinc (pc := 184) (i := 4) (n := (-1)) (ks := []) (ls' := [_, _, _, _, _]) (by decide +kernel) rfl rfl ?_
    refine ty_goto (pc := 187) (off := (-24)) (t := 163) (ks := []) (by decide +kernel) ?_
    -- at 163: .iload 4
    rw [show (m : Int) + -1 = (m : Int) - 1 by omega]
    obtain ⟨f1, f2, f3, f4, f5⟩ := rm_gw_g (A := A) (g := ng + w2.length) (k := 1) (x := A0 73 e) (y := 0) (b := 0) (n := to) rfl
    refine ih v (e :: w2) _ _ _ (by omega) hww ((if_pos rfl).trans (by rw [List.length_cons]; omega)) (fun q h1 h2 h3 h4 h5 => ?_) (fun g g0 g1 => ?_) ?_ (fun I' A' to' k1 k2 k3 k4 k5 => cont I' A' to' (fun k hk => (k1 k hk).trans (if_neg hk)) k2 k3 k4 k5)
    · rw [← hA q h1 h2 h3 h4 h5]
      funext j
      simp [rm_w, h1, h2, h3, h4, h5]
    · rw [rm_gw_n (by omega), rm_gw_n (by omega), rm_gw_n (by omega), rm_gw_n (by omega), rm_gw_n (by omega)]
      exact hg g g0 g1
    · refine ⟨by omega, by rw [List.length_cons]; omega, .inr (.inl ⟨rfl, f1, by rw [f2]; exact s1, by rw [f2]; exact s2⟩), ?_⟩
      rw [f5]
      exact rm_td_keep (Int.le_refl _) (by rw [List.length_cons]; omega) (fun _ _ _ => rfl) (fun g g0 g1 => ⟨rm_gw_n (by omega), rm_gw_n (by omega), rm_gw_n (by omega), rm_gw_n (by omega), rm_gw_n (by omega)⟩) _ _ htd
end RUL
