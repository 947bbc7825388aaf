/-! The reference makes terms same, all pairs. -/
section RSS
variable {L : Nat} {xs : Nat → Int32} {S : ty_S} {G : mo_G} {ta : Int → Int} {nc made ns : Int}
/-- a variable gets a term; from the call of tie -/
theorem rs_one (d : Nat) (hS : ty_st S) (hmade : made ≤ 13000) {dn : List Int} {tr : Bool} {st : Int} {I : Nat → Int} {A : Nat → Int → Int} {ps : List (Int × Int)} {bd : Int → Int} {ch : Int → List Int} {wk : List Int} {fl : Bool} (hR : rs_R I A G ta nc made ns tr st 0 (ps, bd, ch, wk, fl)) (htl : I 32 + 4 ≤ 4 * st) (hwk : I 37 + 1 ≤ st) (hcw : mo_cw made ns bd ch (dn ++ wk)) {v t T : Int} (hl : 0 ≤ v ∧ v < made ∧ bd v = mo_F) (hT0 : 0 ≤ T) (ht : rm_v ta nc t T) {Q : ai_O → ty_S → Prop} {x1 x2 : Int32} {x4 x5 x6 : Option ai_V}
    (cont : ∀ I' A', rs_R I' A' G ta nc made ns tr st 0 (ps, mo_up bd v T, ch, (if tr = true then wk else wk ++ ch v), true) → rs_fm tr I A I' A' → ty_W L xs (d + 3) 132 10 [some (.inr (.inr (some (94, 0)))), some (.inl x1), some (.inl x2), some (.inl (ty_J v)), x4, x5, x6] [] (rm_s S I' A') Q) :
    ty_W L xs (d + 3) 132 191 [some (.inr (.inr (some (94, 0)))), some (.inl x1), some (.inl x2), some (.inl (ty_J v)), x4, x5, x6] [.inl (ty_J t), .inl (ty_J v), .inr (.inr (some (94, 0)))] (rm_s S I A) Q := by
  have hT : T ≠ mo_F := mo_ne_F (.inr hT0)
  have hst := hR.1
  have htr := hR.2.2.1
  have hns : 0 ≤ ns ∧ ns ≤ 500 := hR.2.2.2.2.2.2.2.2.2.2.2
  have hb := hR.2.2.2.2.2.2.1 v hl.1 hl.2.1
  have hbf : A 63 v = 2147483647 := by
    rcases hb with q | q
    · exact q.2
    · exact absurd hl.2.2 q.1
  have hrv := hR.2.2.2.2.2.2.2.1
  obtain ⟨g1, g2, g3, g4, g5⟩ := rm_head_r hrv hcw hns.2 (v := v) hl
  have hw0 := hR.2.2.2.2.2.1.1
  refine ty_callv (pc := 191) (idx := 243) (m := 135) (n := 3) (c := 13) (vs := [_, _]) (r := []) (by decide +kernel) rfl rfl (Nat.le_of_ble_eq_true rfl) (by first | rfl | assumption) (by first | exact hS.1 _ _ rfl | assumption) ((rm_tie (L := L) (xs := xs) (I := I) (A := A) d hS rfl ⟨htr.1.1, by omega⟩ ⟨by omega, by omega⟩ hbf htr.2).deeper (by omega)) ?_
  rintro _ S1 ⟨rfl, A1, rfl, t1, t2, t3, t4⟩
  refine ty_KV ?_
  have hR1 := rs_tie hR hT ht htl t1 t2 t4
  have hf1 := rs_tie_fm (tr := tr) (v := v) (t := t) t2 t3
  have htry : I 40 = if tr = true then 1 else 0 := hR.2.2.2.2.1.2
  have eH : A1 64 = A 64 := t2 _ (by decide) (by decide) (by decide)
  have eN : A1 74 = A 74 := t2 _ (by decide) (by decide) (by decide)
  cases tr with
  | true =>
    refine ty_aload_n (pc := 194) (i := 0) (ks := []) (by decide +kernel) rfl ?_
    refine ty_getI (pc := 195) (idx := 246) (ci := 13) (f := 40) (by decide +kernel) (by first | rfl | assumption) rfl (by first | exact hS.1 _ _ rfl | assumption) (fun v hv => ?_)
    simp (decide := true) only [rm_I, rm_u, rm_w, ty_sI, ty_sR, ty_sA, ty_sQ, ty_mA, ty_mQ, ↓reduceIte, false_and, and_false, true_and, and_true, and_self] at hv
    subst hv
    -- at 198: .ifCond .ne (-188)
    rw [htry]
    refine ty_if_ne (pc := 198) (off := (-188)) (t := 10) (ks := []) (by decide +kernel) (by omega) (fun hc => ?_) (fun hc => ?_)
    · exact cont _ _ hR1 hf1
    · exact absurd hc (by decide)
  | false =>
    refine ty_aload_n (pc := 194) (i := 0) (ks := []) (by decide +kernel) rfl ?_
    refine ty_getI (pc := 195) (idx := 246) (ci := 13) (f := 40) (by decide +kernel) (by first | rfl | assumption) rfl (by first | exact hS.1 _ _ rfl | assumption) (fun v hv => ?_)
    simp (decide := true) only [rm_I, rm_u, rm_w, ty_sI, ty_sR, ty_sA, ty_sQ, ty_mA, ty_mQ, ↓reduceIte, false_and, and_false, true_and, and_true, and_self] at hv
    subst hv
    -- at 198: .ifCond .ne (-188)
    rw [htry]
    refine ty_if_ne (pc := 198) (off := (-188)) (t := 10) (ks := []) (by decide +kernel) (by omega) (fun hc => ?_) (fun hc => ?_)
    · exact absurd rfl hc
    clear hc
    refine ty_aload_n (pc := 201) (i := 0) (ks := []) (by decide +kernel) rfl ?_
    refine ty_getS (b := (64, 0)) (pc := 202) (idx := 48) (ci := 13) (f := 18) (by decide +kernel) (by first | rfl | assumption) rfl (by first | exact hS.1 _ _ rfl | assumption) (by first | exact hS.2.2 _ _ _ _ rfl | assumption) ?_
    refine ty_iload_n (pc := 205) (i := 3) (ks := []) (by decide +kernel) rfl ?_
    refine ty_iaload (pc := 206) (ks := []) (by decide +kernel) (by first | rfl | assumption) (by rfl) (by first | exact hS.1 _ _ rfl | assumption) (by first | exact hS.2.1 _ _ _ rfl | assumption) (by omega) (fun v hv => ?_)
    rw [rm_A (by decide)] at hv
    first | (simp (decide := true) only [rm_w, ty_sI, ty_sR, ty_sA, ty_sQ, ty_mA, ty_mQ, ↓reduceIte, false_and, and_false, true_and, and_true, and_self] at hv) | skip
    subst hv
    -- at 207: .ifCond .ge 6
    rw [eH]
    refine ty_if_ge (pc := 207) (off := 6) (t := 213) (ks := []) (by decide +kernel) (by omega) (fun hc => ?_) (fun hc => ?_)
    rotate_left
    · refine ty_goto (pc := 210) (off := (-200)) (t := 10) (ks := []) (by decide +kernel) ?_
      -- at 10: .aload_n 0
      refine cont _ _ ?_ hf1
      have hnil : ch v = [] := g3.mp hc
      rw [if_neg (by decide), hnil, List.append_nil]
      exact hR1
    · have hc0 := hc
      clear hc
      refine ty_aload_n (pc := 213) (i := 0) (ks := []) (by decide +kernel) rfl ?_
      refine ty_getS (b := (80, 0)) (pc := 214) (idx := 96) (ci := 13) (f := 50) (by decide +kernel) (by first | rfl | assumption) rfl (by first | exact hS.1 _ _ rfl | assumption) (by first | exact hS.2.2 _ _ _ _ rfl | assumption) ?_
      refine ty_aload_n (pc := 217) (i := 0) (ks := []) (by decide +kernel) rfl ?_
      refine ty_getI (pc := 218) (idx := 234) (ci := 13) (f := 37) (by decide +kernel) (by first | rfl | assumption) rfl (by first | exact hS.1 _ _ rfl | assumption) (fun v hv => ?_)
      simp (decide := true) only [rm_I, rm_u, rm_w, ty_sI, ty_sR, ty_sA, ty_sQ, ty_mA, ty_mQ, ↓reduceIte, false_and, and_false, true_and, and_true, and_self] at hv
      subst hv
      refine ty_aload_n (pc := 221) (i := 0) (ks := []) (by decide +kernel) rfl ?_
      refine ty_getS (b := (64, 0)) (pc := 222) (idx := 48) (ci := 13) (f := 18) (by decide +kernel) (by first | rfl | assumption) rfl (by first | exact hS.1 _ _ rfl | assumption) (by first | exact hS.2.2 _ _ _ _ rfl | assumption) ?_
      refine ty_iload_n (pc := 225) (i := 3) (ks := []) (by decide +kernel) rfl ?_
      refine ty_iaload (pc := 226) (ks := []) (by decide +kernel) (by first | rfl | assumption) (by rfl) (by first | exact hS.1 _ _ rfl | assumption) (by first | exact hS.2.1 _ _ _ rfl | assumption) (by omega) (fun v hv => ?_)
      rw [rm_A (by decide)] at hv
      first | (simp (decide := true) only [rm_w, ty_sI, ty_sR, ty_sA, ty_sQ, ty_mA, ty_mQ, ↓reduceIte, false_and, and_false, true_and, and_true, and_self] at hv) | skip
      subst hv
      refine ty_iastore (pc := 227) (ks := []) (by decide +kernel) (by first | rfl | assumption) (by rfl) (by first | exact hS.1 _ _ rfl | assumption) (by first | exact hS.2.1 _ _ _ rfl | assumption) (by omega) ?_
      rw [rm_sA (by decide)]
      refine ty_aload_n (pc := 228) (i := 0) (ks := []) (by decide +kernel) rfl ?_
      refine ty_dup (pc := 229) (ks := []) (by decide +kernel) rfl ?_
      refine ty_getI (pc := 230) (idx := 234) (ci := 13) (f := 37) (by decide +kernel) (by first | rfl | assumption) rfl (by first | exact hS.1 _ _ rfl | assumption) (fun v hv => ?_)
      simp (decide := true) only [rm_I, rm_u, rm_w, ty_sI, ty_sR, ty_sA, ty_sQ, ty_mA, ty_mQ, ↓reduceIte, false_and, and_false, true_and, and_true, and_self] at hv
      subst hv
      refine ty_iconst (pc := 233) (n := 1) (ks := []) (by decide +kernel) ?_
      refine ty_iadd (pc := 234) (ks := []) (by decide +kernel) ?_
      refine ty_putI (pc := 235) (idx := 234) (ci := 13) (f := 37) (by decide +kernel) (by first | rfl | assumption) rfl rfl (by first | exact hS.1 _ _ rfl | assumption) ?_
      rw [rm_sI]
      refine ty_goto (pc := 238) (off := 78) (t := 316) (ks := []) (by decide +kernel) ?_
      refine ty_goto (pc := 316) (off := (-306)) (t := 10) (ks := []) (by decide +kernel) ?_
      -- at 10: .aload_n 0
      rw [eH]
      refine cont _ _ ?_ ?_
      · obtain ⟨a1, a2, a3, a4, a5, a6, a7, a8, a9, a10⟩ := hR1
        refine ⟨a1, a2, a3, a4, a5, ⟨⟨show 0 ≤ I 37 + 1 by omega, show I 37 + 1 ≤ st by omega⟩, fun z => ?_⟩, a7, a8, a9, a10⟩
        have hl1 := (hrv.2 v hl.1 hl.2.1 hl.2.2).1
        rw [← eN] at hl1
        have := rm_wk_put (a6.2 z) hl1
        rw [if_neg (by decide)]
        have ew : (rm_w A1 80 (I 37) (A 64 v)) 80 = mo_up (A1 80) (I 37) (A 64 v) := by
          funext j
          simp [rm_w, mo_up]
        rw [ew]
        exact this
      · refine hf1.trans ⟨fun k h1 h2 h3 h4 h5 h6 => if_neg h6, fun q h1 h2 h3 h4 h5 h6 h7 h8 h9 => by funext j; simp [rm_w, h9], fun z => absurd z (by decide), rt_ud_e rfl rfl rfl⟩
/-- the arguments are put on the stack -/
theorem rs_args (d : Nat) (hS : ty_st S) {tr : Bool} {st : Int} {x y X Y : Int} (hx : 0 ≤ x ∧ x < nc) (hy : 0 ≤ y ∧ y < nc) (hX : ta x = X) (hY : ta y = Y) {Q : ai_O → ty_S → Prop} {x4 x5 x6 : Option ai_V} {bd : Int → Int} {ch : Int → List Int} {wk : List Int} {fl : Bool} (ha : mo_a G X = mo_a G Y) (ha3 : mo_a G X ≤ 3) : ∀ (m : Nat) (I : Nat → Int) (A : Nat → Int → Int) (ps : List (Int × Int)), (m : Int) ≤ mo_a G X → ps.length + m ≤ 1100 → rs_R I A G ta nc made ns tr st 0 (ps, bd, ch, wk, fl) →
    (∀ I' A' (x3 : Int32), rs_R I' A' G ta nc made ns tr st 0 (mo_al G X Y m ps, bd, ch, wk, fl) → rs_fm tr I A I' A' → ty_W L xs (d + 1) 132 10 [some (.inr (.inr (some (94, 0)))), some (.inl (ty_J x)), some (.inl (ty_J y)), some (.inl x3), x4, x5, x6] [] (rm_s S I' A') Q) →
    ty_W L xs (d + 1) 132 282 [some (.inr (.inr (some (94, 0)))), some (.inl (ty_J x)), some (.inl (ty_J y)), some (.inl (ty_J ((m : Int) - 1))), x4, x5, x6] [] (rm_s S I A) Q := by
  intro m
  induction m with
  | zero =>
    intro I A ps hm hlen hR cont
    refine ty_iload_n (pc := 282) (i := 3) (ks := []) (by decide +kernel) rfl ?_
    -- at 283: .ifCond .lt 33
    refine ty_if_lt (pc := 283) (off := 33) (t := 316) (ks := []) (by decide +kernel) (by omega) (fun hc => ?_) (fun hc => ?_)
    · refine ty_goto (pc := 316) (off := (-306)) (t := 10) (ks := []) (by decide +kernel) ?_
      -- at 10: .aload_n 0
      exact cont I A _ hR .refl
    · omega
  | succ m ih =>
    intro I A ps hm hlen hR cont
    have hpl := rm_stk_len hR.2.2.2.1
    simp only at hpl
    have hnc := hR.2.2.2.2.2.2.2.2.2.1
    obtain ⟨c1, c2, c3, c4, c5⟩ := hR.2.2.2.2.2.2.2.2.1 x hx.1 hx.2
    obtain ⟨e1, e2, e3, e4, e5⟩ := hR.2.2.2.2.2.2.2.2.1 y hy.1 hy.2
    rw [hX] at c5
    rw [hY] at e5
    have q1 := c5 m (by omega) (by omega)
    have q2 := e5 m (by omega) (by omega)
    rw [show ((m + 1 : Nat) : Int) - 1 = (m : Int) by omega]
    refine ty_iload_n (pc := 282) (i := 3) (ks := []) (by decide +kernel) rfl ?_
    -- at 283: .ifCond .lt 33
    refine ty_if_lt (pc := 283) (off := 33) (t := 316) (ks := []) (by decide +kernel) (by omega) (fun hc => ?_) (fun hc => ?_)
    · omega
    clear hc
    refine ty_aload_n (pc := 286) (i := 0) (ks := []) (by decide +kernel) rfl ?_
    refine ty_aload_n (pc := 287) (i := 0) (ks := []) (by decide +kernel) rfl ?_
    refine ty_getS (b := (62, 0)) (pc := 288) (idx := 42) (ci := 13) (f := 16) (by decide +kernel) (by first | rfl | assumption) rfl (by first | exact hS.1 _ _ rfl | assumption) (by first | exact hS.2.2 _ _ _ _ rfl | assumption) ?_
    refine ty_iload_n (pc := 291) (i := 1) (ks := []) (by decide +kernel) rfl ?_
    refine ty_iconst (pc := 292) (n := 3) (ks := []) (by decide +kernel) ?_
    refine ty_imul (pc := 293) (ks := []) (by decide +kernel) ?_
    refine ty_iload_n (pc := 294) (i := 3) (ks := []) (by decide +kernel) rfl ?_
    refine ty_iadd (pc := 295) (ks := []) (by decide +kernel) ?_
    refine ty_iaload (pc := 296) (ks := []) (by decide +kernel) (by first | rfl | assumption) (by rfl) (by first | exact hS.1 _ _ rfl | assumption) (by first | exact hS.2.1 _ _ _ rfl | assumption) (by omega) (fun v hv => ?_)
    rw [rm_A (by decide)] at hv
    first | (simp (decide := true) only [rm_w, ty_sI, ty_sR, ty_sA, ty_sQ, ty_mA, ty_mQ, ↓reduceIte, false_and, and_false, true_and, and_true, and_self] at hv) | skip
    subst hv
    refine ty_aload_n (pc := 297) (i := 0) (ks := []) (by decide +kernel) rfl ?_
    refine ty_getS (b := (62, 0)) (pc := 298) (idx := 42) (ci := 13) (f := 16) (by decide +kernel) (by first | rfl | assumption) rfl (by first | exact hS.1 _ _ rfl | assumption) (by first | exact hS.2.2 _ _ _ _ rfl | assumption) ?_
    refine ty_iload_n (pc := 301) (i := 2) (ks := []) (by decide +kernel) rfl ?_
    refine ty_iconst (pc := 302) (n := 3) (ks := []) (by decide +kernel) ?_
    refine ty_imul (pc := 303) (ks := []) (by decide +kernel) ?_
    refine ty_iload_n (pc := 304) (i := 3) (ks := []) (by decide +kernel) rfl ?_
    refine ty_iadd (pc := 305) (ks := []) (by decide +kernel) ?_
    refine ty_iaload (pc := 306) (ks := []) (by decide +kernel) (by first | rfl | assumption) (by rfl) (by first | exact hS.1 _ _ rfl | assumption) (by first | exact hS.2.1 _ _ _ rfl | assumption) (by omega) (fun v hv => ?_)
    rw [rm_A (by decide)] at hv
    first | (simp (decide := true) only [rm_w, ty_sI, ty_sR, ty_sA, ty_sQ, ty_mA, ty_mQ, ↓reduceIte, false_and, and_false, true_and, and_true, and_self] at hv) | skip
    subst hv
    -- at 307: .invokevirtual 253
    refine ty_callv (pc := 307) (idx := 253) (m := 130) (n := 3) (c := 13) (vs := [_, _]) (r := []) (by decide +kernel) rfl rfl (Nat.le_of_ble_eq_true rfl) (by first | rfl | assumption) (by first | exact hS.1 _ _ rfl | assumption) (rm_pair (L := L) (xs := xs) (I := I) (A := A) _ hS rfl ⟨by omega, by omega⟩) ?_
    rintro _ S1 ⟨rfl, rfl⟩
    refine ty_KV ?_
    refine ty_iinc (pc := 310) (i := 3) (n := (-1)) (ks := []) (ls' := [_, _, _, _, _, _, _]) (by decide +kernel) rfl rfl ?_
    refine ty_goto (pc := 313) (off := (-31)) (t := 282) (ks := []) (by decide +kernel) ?_
    -- at 282: .iload_n 3
    rw [show (m : Int) + -1 = (m : Int) - 1 by omega]
    refine ih _ _ ((mo_g G X m, mo_g G Y m) :: ps) (by omega) (by simp only [List.length_cons]; omega) ?_ (fun I' A' x3 h1 h2 => cont I' A' x3 h1 ?_)
    · obtain ⟨a1, a2, a3, a4, a5⟩ := hR
      refine ⟨a1, a2, a3, ?_, a5⟩
      have := rm_stk_put (p := (mo_g G X m, mo_g G Y m)) a4 q1 q2
      have w1 : (rm_w (rm_w A 78 (I 36) (A 62 (x * 3 + m))) 79 (I 36) (A 62 (y * 3 + m))) 78 = mo_up (A 78) (I 36) (A 62 (x * 3 + m)) := by
        funext j
        simp [rm_w, mo_up]
      have w2 : (rm_w (rm_w A 78 (I 36) (A 62 (x * 3 + m))) 79 (I 36) (A 62 (y * 3 + m))) 79 = mo_up (A 79) (I 36) (A 62 (y * 3 + m)) := by
        funext j
        simp [rm_w, mo_up]
      rw [w1, w2]
      exact this
    · refine rs_fm.trans ?_ h2
      exact ⟨fun k h1 h2 h3 h4 h5 h6 => if_neg h4, fun q h1 h2 h3 h4 h5 h6 h7 h8 h9 => by funext j; simp [rm_w, h7, h8], fun _ => ⟨rfl, rfl, rfl, rfl⟩, rt_ud_e rfl rfl rfl⟩
/-- one pair, its values in x and y -/
theorem rs_1 (d : Nat) (hS : ty_st S) (hw : mo_wf G) (hmade : made ≤ 13000) {dn : List Int} {tr : Bool} {st : Int} {I : Nat → Int} {A : Nat → Int → Int} {ps : List (Int × Int)} {bd : Int → Int} {ch : Int → List Int} {wk : List Int} {fl : Bool} (hR : rs_R I A G ta nc made ns tr st 0 (ps, bd, ch, wk, fl)) (htl : I 32 + 4 ≤ 4 * st) (hwk : I 37 + 1 ≤ st) (hcw : mo_cw made ns bd ch (dn ++ wk)) (hlen : ps.length ≤ 1050) {x y X Y : Int} (hx : rm_v ta nc x X) (hy : rm_v ta nc y Y) (hX : mo_isval G made bd X) (hY : mo_isval G made bd Y) {Q : ai_O → ty_S → Prop} {x3 x4 x5 x6 : Option ai_V}
    (cont : ∀ I' A' u (x3 x4 x5 x6 : Option ai_V), mo_u1 G tr X Y ps bd ch wk fl = some u → rs_R I' A' G ta nc made ns tr st 0 u → rs_fm tr I A I' A' → ty_W L xs (d + 3) 132 10 [some (.inr (.inr (some (94, 0)))), some (.inl (ty_J x)), some (.inl (ty_J y)), x3, x4, x5, x6] [] (rm_s S I' A') Q)
    (fail : mo_u1 G tr X Y ps bd ch wk fl = none → Q (.inl (some (.inl (ty_J 0)))) (rm_s S I A)) :
    ty_W L xs (d + 3) 132 64 [some (.inr (.inr (some (94, 0)))), some (.inl (ty_J x)), some (.inl (ty_J y)), x3, x4, x5, x6] [] (rm_s S I A) Q := by
  obtain ⟨x1, x2, x9⟩ := rm_isval_var hx hX
  obtain ⟨y1, y2, y9⟩ := rm_isval_var hy hY
  have hnc := hR.2.2.2.2.2.2.2.2.2.1
  have hxr : -13000 ≤ x ∧ x < 24000 := by
    by_cases e : x < 0
    · have := x2 e
      omega
    · have := x9 (by omega)
      omega
  have hyr : -13000 ≤ y ∧ y < 24000 := by
    by_cases e : y < 0
    · have := y2 e
      omega
    · have := y9 (by omega)
      omega
  unfold mo_u1 at cont fail
  by_cases ex : x < 0
  · obtain ⟨rfl, xa, xb, xf⟩ := x2 ex
    rw [if_neg (by omega)] at cont fail
    by_cases ey : y < 0
    · obtain ⟨rfl, ya, yb, yf⟩ := y2 ey
      rw [if_pos (by omega)] at cont fail
      refine ty_iload_n (pc := 64) (i := 1) (ks := []) (by decide +kernel) rfl ?_
      -- at 65: .ifCond .ge 93
      refine ty_if_ge (pc := 65) (off := 93) (t := 158) (ks := []) (by decide +kernel) (by omega) (fun hc => ?_) (fun hc => ?_)
      · omega
      clear hc
      refine ty_iload_n (pc := 68) (i := 2) (ks := []) (by decide +kernel) rfl ?_
      -- at 69: .ifCond .ge 89
      refine ty_if_ge (pc := 69) (off := 89) (t := 158) (ks := []) (by decide +kernel) (by omega) (fun hc => ?_) (fun hc => ?_)
      · omega
      clear hc
      refine ty_iconst (pc := 72) (n := (-1)) (ks := []) (by decide +kernel) ?_
      refine ty_iload_n (pc := 73) (i := 1) (ks := []) (by decide +kernel) rfl ?_
      refine ty_isub (pc := 74) (ks := []) (by decide +kernel) ?_
      refine ty_istore_n (pc := 75) (i := 3) (ks := []) (ls' := [_, _, _, _, _, _, _]) (by decide +kernel) rfl ?_
      refine ty_iconst (pc := 76) (n := (-1)) (ks := []) (by decide +kernel) ?_
      refine ty_iload_n (pc := 77) (i := 2) (ks := []) (by decide +kernel) rfl ?_
      refine ty_isub (pc := 78) (ks := []) (by decide +kernel) ?_
      refine ty_istore (pc := 79) (i := 4) (ks := []) (ls' := [_, _, _, _, _, _, _]) (by decide +kernel) rfl ?_
      refine ty_iload_n (pc := 81) (i := 3) (ks := []) (by decide +kernel) rfl ?_
      refine ty_iload (pc := 82) (i := 4) (ks := []) (by decide +kernel) rfl ?_
      -- at 84: .if_icmp .ge 7
      by_cases e : x = y
      · subst e
        rw [if_pos rfl] at cont
        refine ty_icmp_ge (pc := 84) (off := 7) (t := 91) (ks := []) (by decide +kernel) (by omega) (by omega) (fun hc => ?_) (fun hc => ?_)
        rotate_left
        · omega
        refine ty_iload (pc := 91) (i := 4) (ks := []) (by decide +kernel) rfl ?_
        refine ty_istore (pc := 93) (i := 5) (ks := []) (ls' := [_, _, _, _, _, _, _]) (by decide +kernel) rfl ?_
        refine ty_iload_n (pc := 95) (i := 3) (ks := []) (by decide +kernel) rfl ?_
        refine ty_iload (pc := 96) (i := 4) (ks := []) (by decide +kernel) rfl ?_
        -- at 98: .if_icmp .ge 8
        refine ty_icmp_ge (pc := 98) (off := 8) (t := 106) (ks := []) (by decide +kernel) (by omega) (by omega) (fun hc => ?_) (fun hc => ?_)
        rotate_left
        · omega
        refine ty_iload_n (pc := 106) (i := 3) (ks := []) (by decide +kernel) rfl ?_
        refine ty_istore (pc := 107) (i := 6) (ks := []) (ls' := [_, _, _, _, _, _, _]) (by decide +kernel) rfl ?_
        refine ty_iload_n (pc := 109) (i := 3) (ks := []) (by decide +kernel) rfl ?_
        refine ty_iload (pc := 110) (i := 4) (ks := []) (by decide +kernel) rfl ?_
        -- at 112: .if_icmp .ne 6
        refine ty_icmp_ne (pc := 112) (off := 6) (t := 118) (ks := []) (by decide +kernel) (by omega) (by omega) (fun hc => ?_) (fun hc => ?_)
        · omega
        refine ty_goto (pc := 115) (off := (-105)) (t := 10) (ks := []) (by decide +kernel) ?_
        -- at 10: .aload_n 0
        exact cont I A _ _ _ _ _ rfl hR .refl
      · rw [if_neg e] at cont
        by_cases e2 : x < y
        · rw [if_pos e2] at cont
          refine ty_icmp_ge (pc := 84) (off := 7) (t := 91) (ks := []) (by decide +kernel) (by omega) (by omega) (fun hc => ?_) (fun hc => ?_)
          rotate_left
          · omega
          refine ty_iload (pc := 91) (i := 4) (ks := []) (by decide +kernel) rfl ?_
          refine ty_istore (pc := 93) (i := 5) (ks := []) (ls' := [_, _, _, _, _, _, _]) (by decide +kernel) rfl ?_
          refine ty_iload_n (pc := 95) (i := 3) (ks := []) (by decide +kernel) rfl ?_
          refine ty_iload (pc := 96) (i := 4) (ks := []) (by decide +kernel) rfl ?_
          -- at 98: .if_icmp .ge 8
          refine ty_icmp_ge (pc := 98) (off := 8) (t := 106) (ks := []) (by decide +kernel) (by omega) (by omega) (fun hc => ?_) (fun hc => ?_)
          rotate_left
          · omega
          refine ty_iload_n (pc := 106) (i := 3) (ks := []) (by decide +kernel) rfl ?_
          refine ty_istore (pc := 107) (i := 6) (ks := []) (ls' := [_, _, _, _, _, _, _]) (by decide +kernel) rfl ?_
          refine ty_iload_n (pc := 109) (i := 3) (ks := []) (by decide +kernel) rfl ?_
          refine ty_iload (pc := 110) (i := 4) (ks := []) (by decide +kernel) rfl ?_
          -- at 112: .if_icmp .ne 6
          refine ty_icmp_ne (pc := 112) (off := 6) (t := 118) (ks := []) (by decide +kernel) (by omega) (by omega) (fun hc => ?_) (fun hc => ?_)
          rotate_left
          · omega
          refine rs_two d hS hmade hR htl hcw (lo := -1 - y) (hi := -1 - x) ⟨ya, by omega, xb, yf, xf⟩ (fun I' A' h1 h2 => cont I' A' _ _ _ _ _ rfl ?_ h2)
          rw [show -1 - (-1 - y) = y by omega] at h1
          exact h1
        · rw [if_neg e2] at cont
          refine ty_icmp_ge (pc := 84) (off := 7) (t := 91) (ks := []) (by decide +kernel) (by omega) (by omega) (fun hc => ?_) (fun hc => ?_)
          · omega
          refine ty_iload_n (pc := 87) (i := 3) (ks := []) (by decide +kernel) rfl ?_
          refine ty_goto (pc := 88) (off := 5) (t := 93) (ks := []) (by decide +kernel) ?_
          refine ty_istore (pc := 93) (i := 5) (ks := []) (ls' := [_, _, _, _, _, _, _]) (by decide +kernel) rfl ?_
          refine ty_iload_n (pc := 95) (i := 3) (ks := []) (by decide +kernel) rfl ?_
          refine ty_iload (pc := 96) (i := 4) (ks := []) (by decide +kernel) rfl ?_
          -- at 98: .if_icmp .ge 8
          refine ty_icmp_ge (pc := 98) (off := 8) (t := 106) (ks := []) (by decide +kernel) (by omega) (by omega) (fun hc => ?_) (fun hc => ?_)
          · omega
          refine ty_iload (pc := 101) (i := 4) (ks := []) (by decide +kernel) rfl ?_
          refine ty_goto (pc := 103) (off := 4) (t := 107) (ks := []) (by decide +kernel) ?_
          refine ty_istore (pc := 107) (i := 6) (ks := []) (ls' := [_, _, _, _, _, _, _]) (by decide +kernel) rfl ?_
          refine ty_iload_n (pc := 109) (i := 3) (ks := []) (by decide +kernel) rfl ?_
          refine ty_iload (pc := 110) (i := 4) (ks := []) (by decide +kernel) rfl ?_
          -- at 112: .if_icmp .ne 6
          refine ty_icmp_ne (pc := 112) (off := 6) (t := 118) (ks := []) (by decide +kernel) (by omega) (by omega) (fun hc => ?_) (fun hc => ?_)
          rotate_left
          · omega
          refine rs_two d hS hmade hR htl hcw (lo := -1 - x) (hi := -1 - y) ⟨xa, by omega, yb, xf, yf⟩ (fun I' A' h1 h2 => cont I' A' _ _ _ _ _ rfl ?_ h2)
          rw [show -1 - (-1 - x) = x by omega] at h1
          exact h1
    · obtain ⟨ya, yb, yo⟩ := y9 (by omega)
      rw [if_neg (by omega), if_pos ex] at cont fail
      refine ty_iload_n (pc := 64) (i := 1) (ks := []) (by decide +kernel) rfl ?_
      -- at 65: .ifCond .ge 93
      refine ty_if_ge (pc := 65) (off := 93) (t := 158) (ks := []) (by decide +kernel) (by omega) (fun hc => ?_) (fun hc => ?_)
      · omega
      clear hc
      refine ty_iload_n (pc := 68) (i := 2) (ks := []) (by decide +kernel) rfl ?_
      -- at 69: .ifCond .ge 89
      refine ty_if_ge (pc := 69) (off := 89) (t := 158) (ks := []) (by decide +kernel) (by omega) (fun hc => ?_) (fun hc => ?_)
      rotate_left
      · omega
      clear hc
      refine ty_iload_n (pc := 158) (i := 1) (ks := []) (by decide +kernel) rfl ?_
      -- at 159: .ifCond .lt 7
      refine ty_if_lt (pc := 159) (off := 7) (t := 166) (ks := []) (by decide +kernel) (by omega) (fun hc => ?_) (fun hc => ?_)
      rotate_left
      · omega
      clear hc
      refine ty_iload_n (pc := 166) (i := 1) (ks := []) (by decide +kernel) rfl ?_
      -- at 167: .ifCond .ge 9
      refine ty_if_ge (pc := 167) (off := 9) (t := 176) (ks := []) (by decide +kernel) (by omega) (fun hc => ?_) (fun hc => ?_)
      · omega
      clear hc
      refine ty_iconst (pc := 170) (n := (-1)) (ks := []) (by decide +kernel) ?_
      refine ty_iload_n (pc := 171) (i := 1) (ks := []) (by decide +kernel) rfl ?_
      refine ty_isub (pc := 172) (ks := []) (by decide +kernel) ?_
      refine ty_goto (pc := 173) (off := 6) (t := 179) (ks := []) (by decide +kernel) ?_
      refine ty_istore_n (pc := 179) (i := 3) (ks := []) (ls' := [_, _, _, _, _, _, _]) (by decide +kernel) rfl ?_
      refine ty_aload_n (pc := 180) (i := 0) (ks := []) (by decide +kernel) rfl ?_
      refine ty_iload_n (pc := 181) (i := 3) (ks := []) (by decide +kernel) rfl ?_
      refine ty_iload_n (pc := 182) (i := 1) (ks := []) (by decide +kernel) rfl ?_
      -- at 183: .ifCond .ge 7
      refine ty_if_ge (pc := 183) (off := 7) (t := 190) (ks := []) (by decide +kernel) (by omega) (fun hc => ?_) (fun hc => ?_)
      · omega
      clear hc
      refine ty_iload_n (pc := 186) (i := 2) (ks := []) (by decide +kernel) rfl ?_
      refine ty_goto (pc := 187) (off := 4) (t := 191) (ks := []) (by decide +kernel) ?_
      -- at 191: .invokevirtual 243
      exact rs_one d hS hmade hR htl hwk hcw ⟨xa, xb, xf⟩ (by omega) hy (fun I' A' h1 h2 => cont I' A' _ _ _ _ _ rfl h1 h2)
  · obtain ⟨xa, xb, xo⟩ := x9 (by omega)
    by_cases ey : y < 0
    · obtain ⟨rfl, ya, yb, yf⟩ := y2 ey
      rw [if_neg (by omega), if_neg (by omega), if_neg (by omega)] at cont fail
      refine ty_iload_n (pc := 64) (i := 1) (ks := []) (by decide +kernel) rfl ?_
      -- at 65: .ifCond .ge 93
      refine ty_if_ge (pc := 65) (off := 93) (t := 158) (ks := []) (by decide +kernel) (by omega) (fun hc => ?_) (fun hc => ?_)
      rotate_left
      · omega
      clear hc
      refine ty_iload_n (pc := 158) (i := 1) (ks := []) (by decide +kernel) rfl ?_
      -- at 159: .ifCond .lt 7
      refine ty_if_lt (pc := 159) (off := 7) (t := 166) (ks := []) (by decide +kernel) (by omega) (fun hc => ?_) (fun hc => ?_)
      · omega
      clear hc
      refine ty_iload_n (pc := 162) (i := 2) (ks := []) (by decide +kernel) rfl ?_
      -- at 163: .ifCond .ge 78
      refine ty_if_ge (pc := 163) (off := 78) (t := 241) (ks := []) (by decide +kernel) (by omega) (fun hc => ?_) (fun hc => ?_)
      · omega
      clear hc
      refine ty_iload_n (pc := 166) (i := 1) (ks := []) (by decide +kernel) rfl ?_
      -- at 167: .ifCond .ge 9
      refine ty_if_ge (pc := 167) (off := 9) (t := 176) (ks := []) (by decide +kernel) (by omega) (fun hc => ?_) (fun hc => ?_)
      rotate_left
      · omega
      clear hc
      refine ty_iconst (pc := 176) (n := (-1)) (ks := []) (by decide +kernel) ?_
      refine ty_iload_n (pc := 177) (i := 2) (ks := []) (by decide +kernel) rfl ?_
      refine ty_isub (pc := 178) (ks := []) (by decide +kernel) ?_
      refine ty_istore_n (pc := 179) (i := 3) (ks := []) (ls' := [_, _, _, _, _, _, _]) (by decide +kernel) rfl ?_
      refine ty_aload_n (pc := 180) (i := 0) (ks := []) (by decide +kernel) rfl ?_
      refine ty_iload_n (pc := 181) (i := 3) (ks := []) (by decide +kernel) rfl ?_
      refine ty_iload_n (pc := 182) (i := 1) (ks := []) (by decide +kernel) rfl ?_
      -- at 183: .ifCond .ge 7
      refine ty_if_ge (pc := 183) (off := 7) (t := 190) (ks := []) (by decide +kernel) (by omega) (fun hc => ?_) (fun hc => ?_)
      rotate_left
      · omega
      clear hc
      refine ty_iload_n (pc := 190) (i := 1) (ks := []) (by decide +kernel) rfl ?_
      -- at 191: .invokevirtual 243
      exact rs_one d hS hmade hR htl hwk hcw ⟨ya, yb, yf⟩ (by omega) hx (fun I' A' h1 h2 => cont I' A' _ _ _ _ _ rfl h1 h2)
    · obtain ⟨ya, yb, yo⟩ := y9 (by omega)
      rw [if_pos (by omega)] at cont fail
      obtain ⟨c1, c2, c3, c4, c5⟩ := hR.2.2.2.2.2.2.2.2.1 x (by omega) xa
      obtain ⟨e1, e2, e3, e4, e5⟩ := hR.2.2.2.2.2.2.2.2.1 y (by omega) ya
      rw [xb] at c3 c4
      rw [yb] at e3 e4
      have hlx := (hw _ xo.2.1).2.1
      have hly := (hw _ yo.2.1).2.1
      have hax := (hw _ xo.2.1).2.2.1
      have hay := (hw _ yo.2.1).2.2.1
      have hlx' : 0 ≤ mo_l G X ∧ mo_l G X ≤ 65535 := hlx
      have hly' : 0 ≤ mo_l G Y ∧ mo_l G Y ≤ 65535 := hly
      have hax' : 0 ≤ mo_a G X ∧ mo_a G X ≤ 3 := hax
      have hay' : 0 ≤ mo_a G Y ∧ mo_a G Y ≤ 3 := hay
      refine ty_iload_n (pc := 64) (i := 1) (ks := []) (by decide +kernel) rfl ?_
      -- at 65: .ifCond .ge 93
      refine ty_if_ge (pc := 65) (off := 93) (t := 158) (ks := []) (by decide +kernel) (by omega) (fun hc => ?_) (fun hc => ?_)
      rotate_left
      · omega
      clear hc
      refine ty_iload_n (pc := 158) (i := 1) (ks := []) (by decide +kernel) rfl ?_
      -- at 159: .ifCond .lt 7
      refine ty_if_lt (pc := 159) (off := 7) (t := 166) (ks := []) (by decide +kernel) (by omega) (fun hc => ?_) (fun hc => ?_)
      · omega
      clear hc
      refine ty_iload_n (pc := 162) (i := 2) (ks := []) (by decide +kernel) rfl ?_
      -- at 163: .ifCond .ge 78
      refine ty_if_ge (pc := 163) (off := 78) (t := 241) (ks := []) (by decide +kernel) (by omega) (fun hc => ?_) (fun hc => ?_)
      rotate_left
      · omega
      clear hc
      refine ty_aload_n (pc := 241) (i := 0) (ks := []) (by decide +kernel) rfl ?_
      refine ty_getS (b := (60, 0)) (pc := 242) (idx := 35) (ci := 13) (f := 14) (by decide +kernel) (by first | rfl | assumption) rfl (by first | exact hS.1 _ _ rfl | assumption) (by first | exact hS.2.2 _ _ _ _ rfl | assumption) ?_
      refine ty_iload_n (pc := 245) (i := 1) (ks := []) (by decide +kernel) rfl ?_
      refine ty_iaload (pc := 246) (ks := []) (by decide +kernel) (by first | rfl | assumption) (by rfl) (by first | exact hS.1 _ _ rfl | assumption) (by first | exact hS.2.1 _ _ _ rfl | assumption) (by omega) (fun v hv => ?_)
      rw [rm_A (by decide)] at hv
      first | (simp (decide := true) only [rm_w, ty_sI, ty_sR, ty_sA, ty_sQ, ty_mA, ty_mQ, ↓reduceIte, false_and, and_false, true_and, and_true, and_self] at hv) | skip
      subst hv
      refine ty_aload_n (pc := 247) (i := 0) (ks := []) (by decide +kernel) rfl ?_
      refine ty_getS (b := (60, 0)) (pc := 248) (idx := 35) (ci := 13) (f := 14) (by decide +kernel) (by first | rfl | assumption) rfl (by first | exact hS.1 _ _ rfl | assumption) (by first | exact hS.2.2 _ _ _ _ rfl | assumption) ?_
      refine ty_iload_n (pc := 251) (i := 2) (ks := []) (by decide +kernel) rfl ?_
      refine ty_iaload (pc := 252) (ks := []) (by decide +kernel) (by first | rfl | assumption) (by rfl) (by first | exact hS.1 _ _ rfl | assumption) (by first | exact hS.2.1 _ _ _ rfl | assumption) (by omega) (fun v hv => ?_)
      rw [rm_A (by decide)] at hv
      first | (simp (decide := true) only [rm_w, ty_sI, ty_sR, ty_sA, ty_sQ, ty_mA, ty_mQ, ↓reduceIte, false_and, and_false, true_and, and_true, and_self] at hv) | skip
      subst hv
      -- at 253: .if_icmp .ne 18
      rw [c3, e3]
      refine ty_icmp_ne (pc := 253) (off := 18) (t := 271) (ks := []) (by decide +kernel) (by omega) (by omega) (fun hc => ?_) (fun hc => ?_)
      · rw [if_neg (fun q => hc q.1)] at fail
        refine ty_iconst (pc := 271) (n := 0) (ks := []) (by decide +kernel) ?_
        -- at 272: .ireturn
        refine ty_ret_i (pc := 272) (ks := []) (ty := .boolean) (by decide +kernel) rfl (ty_fit_z (by omega)) ?_
        exact fail rfl
      · have hlq := hc
        clear hc
        refine ty_aload_n (pc := 256) (i := 0) (ks := []) (by decide +kernel) rfl ?_
        refine ty_getS (b := (61, 0)) (pc := 257) (idx := 38) (ci := 13) (f := 15) (by decide +kernel) (by first | rfl | assumption) rfl (by first | exact hS.1 _ _ rfl | assumption) (by first | exact hS.2.2 _ _ _ _ rfl | assumption) ?_
        refine ty_iload_n (pc := 260) (i := 1) (ks := []) (by decide +kernel) rfl ?_
        refine ty_iaload (pc := 261) (ks := []) (by decide +kernel) (by first | rfl | assumption) (by rfl) (by first | exact hS.1 _ _ rfl | assumption) (by first | exact hS.2.1 _ _ _ rfl | assumption) (by omega) (fun v hv => ?_)
        rw [rm_A (by decide)] at hv
        first | (simp (decide := true) only [rm_w, ty_sI, ty_sR, ty_sA, ty_sQ, ty_mA, ty_mQ, ↓reduceIte, false_and, and_false, true_and, and_true, and_self] at hv) | skip
        subst hv
        refine ty_aload_n (pc := 262) (i := 0) (ks := []) (by decide +kernel) rfl ?_
        refine ty_getS (b := (61, 0)) (pc := 263) (idx := 38) (ci := 13) (f := 15) (by decide +kernel) (by first | rfl | assumption) rfl (by first | exact hS.1 _ _ rfl | assumption) (by first | exact hS.2.2 _ _ _ _ rfl | assumption) ?_
        refine ty_iload_n (pc := 266) (i := 2) (ks := []) (by decide +kernel) rfl ?_
        refine ty_iaload (pc := 267) (ks := []) (by decide +kernel) (by first | rfl | assumption) (by rfl) (by first | exact hS.1 _ _ rfl | assumption) (by first | exact hS.2.1 _ _ _ rfl | assumption) (by omega) (fun v hv => ?_)
        rw [rm_A (by decide)] at hv
        first | (simp (decide := true) only [rm_w, ty_sI, ty_sR, ty_sA, ty_sQ, ty_mA, ty_mQ, ↓reduceIte, false_and, and_false, true_and, and_true, and_self] at hv) | skip
        subst hv
        -- at 268: .if_icmp .eq 5
        rw [c4, e4]
        refine ty_icmp_eq (pc := 268) (off := 5) (t := 273) (ks := []) (by decide +kernel) (by omega) (by omega) (fun hc => ?_) (fun hc => ?_)
        rotate_left
        · rw [if_neg (fun q => hc q.2)] at fail
          refine ty_iconst (pc := 271) (n := 0) (ks := []) (by decide +kernel) ?_
          -- at 272: .ireturn
          refine ty_ret_i (pc := 272) (ks := []) (ty := .boolean) (by decide +kernel) rfl (ty_fit_z (by omega)) ?_
          exact fail rfl
        · rw [if_pos ⟨hlq, hc⟩] at cont
          refine ty_aload_n (pc := 273) (i := 0) (ks := []) (by decide +kernel) rfl ?_
          refine ty_getS (b := (61, 0)) (pc := 274) (idx := 38) (ci := 13) (f := 15) (by decide +kernel) (by first | rfl | assumption) rfl (by first | exact hS.1 _ _ rfl | assumption) (by first | exact hS.2.2 _ _ _ _ rfl | assumption) ?_
          refine ty_iload_n (pc := 277) (i := 1) (ks := []) (by decide +kernel) rfl ?_
          refine ty_iaload (pc := 278) (ks := []) (by decide +kernel) (by first | rfl | assumption) (by rfl) (by first | exact hS.1 _ _ rfl | assumption) (by first | exact hS.2.1 _ _ _ rfl | assumption) (by omega) (fun v hv => ?_)
          rw [rm_A (by decide)] at hv
          first | (simp (decide := true) only [rm_w, ty_sI, ty_sR, ty_sA, ty_sQ, ty_mA, ty_mQ, ↓reduceIte, false_and, and_false, true_and, and_true, and_self] at hv) | skip
          subst hv
          refine ty_iconst (pc := 279) (n := 1) (ks := []) (by decide +kernel) ?_
          refine ty_isub (pc := 280) (ks := []) (by decide +kernel) ?_
          refine ty_istore_n (pc := 281) (i := 3) (ks := []) (ls' := [_, _, _, _, _, _, _]) (by decide +kernel) rfl ?_
          -- at 282: .iload_n 3
          rw [c4, show mo_a G X - 1 = ((mo_a G X).toNat : Int) - 1 by omega]
          refine rs_args (d + 2) hS ⟨by omega, xa⟩ ⟨by omega, ya⟩ xb yb hc hax'.2 _ I A ps (by omega) (by omega) hR (fun I' A' x3 h1 h2 => cont I' A' _ _ _ _ _ rfl h1 h2)
/-- what making same comes to -/
def rs_un (S : ty_S) (I : Nat → Int) (A : Nat → Int → Int) (G : mo_G) (ta : Int → Int) (nc made ns : Int) (tr : Bool) (r : Int × Int × (Int → Int) × (Int → List Int) × List Int × Bool) : ai_O → ty_S → Prop := ty_oI fun z S' => z = (if r.1 = 1 then 1 else 0) ∧ ∃ I' A' ps, S' = rm_s S I' A' ∧ rs_R I' A' G ta nc made ns tr r.2.1 (if r.1 = 2 then 3 else 0) (ps, r.2.2) ∧ rs_fm tr I A I' A'
theorem rs_un_tr {I I1 : Nat → Int} {A A1 : Nat → Int → Int} {tr : Bool} {r : Int × Int × (Int → Int) × (Int → List Int) × List Int × Bool} (h : rs_fm tr I A I1 A1) {o : ai_O} {S' : ty_S} (g : rs_un S I1 A1 G ta nc made ns tr r o S') : rs_un S I A G ta nc made ns tr r o S' := by
  obtain ⟨z, h1, h2, I', A', ps, h3, h4, h5⟩ := g
  exact ⟨z, h1, h2, I', A', ps, h3, h4, h.trans h5⟩
theorem rs_loop (d : Nat) (hS : ty_st S) (hw : mo_wf G) (hmade : made ≤ 13000) {dn : List Int} {tr : Bool} {Q : ai_O → ty_S → Prop} : ∀ (m : Nat) (st : Int) (I : Nat → Int) (A : Nat → Int → Int) (ps : List (Int × Int)) (bd : Int → Int) (ch : Int → List Int) (wk : List Int) (fl : Bool) (x1 x2 x3 x4 x5 x6 : Option ai_V), m = (501 - st).toNat → rs_R I A G ta nc made ns tr st 0 (ps, bd, ch, wk, fl) → (ps.length : Int) ≤ 3 + 2 * st → mo_po G made ps → mo_bw G made bd → mo_cw made ns bd ch (dn ++ wk) → (∀ o S', rs_un S I A G ta nc made ns tr (mo_un G tr m st (ps, bd, ch, wk, fl)) o S' → Q o S') →
    ty_W L xs (d + 3) 132 10 [some (.inr (.inr (some (94, 0)))), x1, x2, x3, x4, x5, x6] [] (rm_s S I A) Q := by
  intro m
  induction m with
  | zero => intro st I A ps bd ch wk fl x1 x2 x3 x4 x5 x6 hm hR; have := hR.1; omega
  | succ m ih =>
    intro st I A ps bd ch wk fl x1 x2 x3 x4 x5 x6 hm hR hlen hpo hbw hcw fin
    have hst := hR.1
    have hpl := rm_stk_len hR.2.2.2.1
    simp only at hpl
    have hnc := hR.2.2.2.2.2.2.2.2.2.1
    have hta : ∀ c, 0 ≤ c → c < nc → 0 ≤ ta c := fun c c0 c1 => (hR.2.2.2.2.2.2.2.2.1 c c0 c1).1.1
    refine ty_aload_n (pc := 10) (i := 0) (ks := []) (by decide +kernel) rfl ?_
    refine ty_getI (pc := 11) (idx := 231) (ci := 13) (f := 36) (by decide +kernel) (by first | rfl | assumption) rfl (by first | exact hS.1 _ _ rfl | assumption) (fun v hv => ?_)
    simp (decide := true) only [rm_I, rm_u, rm_w, ty_sI, ty_sR, ty_sA, ty_sQ, ty_mA, ty_mQ, ↓reduceIte, false_and, and_false, true_and, and_true, and_self] at hv
    subst hv
    -- at 14: .ifCond .le 305
    cases ps with
    | nil =>
      have hpl : I 36 = 0 := hpl
      refine ty_if_le (pc := 14) (off := 305) (t := 319) (ks := []) (by decide +kernel) (by omega) (fun hc => ?_) (fun hc => ?_)
      · refine ty_iconst (pc := 319) (n := 1) (ks := []) (by decide +kernel) ?_
        -- at 320: .ireturn
        refine ty_ret_i (pc := 320) (ks := []) (ty := .boolean) (by decide +kernel) rfl (ty_fit_z (by omega)) ?_
        exact fin _ _ ⟨1, rfl, rfl, I, A, [], rfl, hR, .refl⟩
      · omega
    | cons p ps =>
      rw [List.length_cons] at hpl hlen
      refine ty_if_le (pc := 14) (off := 305) (t := 319) (ks := []) (by decide +kernel) (by omega) (fun hc => ?_) (fun hc => ?_)
      · omega
      clear hc
      refine ty_aload_n (pc := 17) (i := 0) (ks := []) (by decide +kernel) rfl ?_
      -- at 18: .invokevirtual 237
      refine ty_callv (pc := 18) (idx := 237) (m := 133) (n := 1) (c := 13) (vs := []) (r := []) (by decide +kernel) rfl rfl (Nat.le_of_ble_eq_true rfl) (by first | rfl | assumption) (by first | exact hS.1 _ _ rfl | assumption) ((rm_step (L := L) (xs := xs) (I := I) (A := A) d hS hst.1 hst.2 hR.2.1).deeper (by omega)) ?_
      rintro _ S1 ⟨z, rfl, ⟨e5, rfl, rfl⟩ | ⟨e5, rfl, rfl⟩⟩
      · refine ty_KI ?_
        refine ty_if_ne (pc := 21) (off := 5) (t := 26) (ks := []) (by decide +kernel) (by omega) (fun hc => ?_) (fun hc => ?_)
        · exact absurd rfl hc
        refine ty_iconst (pc := 24) (n := 0) (ks := []) (by decide +kernel) ?_
        -- at 25: .ireturn
        refine ty_ret_i (pc := 25) (ks := []) (ty := .boolean) (by decide +kernel) rfl (ty_fit_z (by omega)) ?_
        have e : mo_un G tr (m + 1) st (p :: ps, bd, ch, wk, fl) = (2, st, bd, ch, wk, fl) := by
          show (if 500 ≤ st then _ else _) = _
          rw [if_pos (by omega)]
        rw [e] at fin
        refine fin _ _ ⟨0, rfl, rfl, _, A, p :: ps, rfl, ?_, ?_⟩
        · obtain ⟨a1, a2, a3⟩ := hR
          exact ⟨a1, rfl, a3⟩
        · exact ⟨fun k h1 h2 h3 h4 h5 h6 => if_neg h2, fun _ _ _ _ _ _ _ _ _ _ => rfl, fun _ => ⟨rfl, rfl, rfl, rfl⟩, rt_ud_e rfl rfl rfl⟩
      · refine ty_KI ?_
        refine ty_if_ne (pc := 21) (off := 5) (t := 26) (ks := []) (by decide +kernel) (by omega) (fun hc => ?_) (fun hc => ?_)
        rotate_left
        · exact absurd hc (by decide)
        clear hc
        obtain ⟨k1, k2, k3, k4⟩ := hR.2.2.2.1
        have o1 := (hpo p List.mem_cons_self).1
        have o2 := (hpo p List.mem_cons_self).2
        obtain ⟨v1, v2⟩ := rm_t_v hw o1 hta k2
        obtain ⟨w1, w2⟩ := rm_t_v hw o2 hta k3
        have e : mo_un G tr (m + 1) st (p :: ps, bd, ch, wk, fl) = match mo_u1 G tr (mo_val G bd p.1) (mo_val G bd p.2) ps bd ch wk fl with
            | none => (0, st + 1, bd, ch, wk, fl)
            | some u => mo_un G tr m (st + 1) u := by
          show (if 500 ≤ st then _ else _) = _
          rw [if_neg (by omega)]
          rfl
        rw [e] at fin
        have hi1 := mo_val_isval hw hbw (.inl o1)
        have hi2 := mo_val_isval hw hbw (.inl o2)
        have hR1 : rs_R (rm_u (rm_u I 30 (st + 1)) 36 (I 36 - 1)) A G ta nc made ns tr (st + 1) 0 (ps, bd, ch, wk, fl) := by
          obtain ⟨a1, a2, a3, a4, a5, a6, a7⟩ := hR
          exact ⟨⟨rfl, by omega, by omega⟩, a2, ⟨⟨a3.1.1, show I 32 ≤ 4 * (st + 1) by have := a3.1.2; omega⟩, a3.2⟩, k4, a5, ⟨⟨a6.1.1, show I 37 ≤ st + 1 by have := a6.1.2; omega⟩, a6.2⟩, a7⟩
        have hf1 : rs_fm tr I A (rm_u (rm_u I 30 (st + 1)) 36 (I 36 - 1)) A := ⟨fun k h1 h2 h3 h4 h5 h6 => (if_neg h4).trans (if_neg h1), fun _ _ _ _ _ _ _ _ _ _ => rfl, fun _ => ⟨rfl, rfl, rfl, rfl⟩, rt_ud_e rfl rfl rfl⟩
        have htl := hR.2.2.1.1
        have hwk := hR.2.2.2.2.2.1.1
        have hbd : ∀ v, 0 ≤ v → v < made → rm_b ta nc (A 63 v) (bd v) := hR.2.2.2.2.2.2.1
        refine ty_aload_n (pc := 26) (i := 0) (ks := []) (by decide +kernel) rfl ?_
        refine ty_dup (pc := 27) (ks := []) (by decide +kernel) rfl ?_
        refine ty_getI (pc := 28) (idx := 231) (ci := 13) (f := 36) (by decide +kernel) (by first | rfl | assumption) rfl (by first | exact hS.1 _ _ rfl | assumption) (fun v hv => ?_)
        simp (decide := true) only [rm_I, rm_u, rm_w, ty_sI, ty_sR, ty_sA, ty_sQ, ty_mA, ty_mQ, ↓reduceIte, false_and, and_false, true_and, and_true, and_self] at hv
        subst hv
        refine ty_iconst (pc := 31) (n := 1) (ks := []) (by decide +kernel) ?_
        refine ty_isub (pc := 32) (ks := []) (by decide +kernel) ?_
        refine ty_putI (pc := 33) (idx := 231) (ci := 13) (f := 36) (by decide +kernel) (by first | rfl | assumption) rfl rfl (by first | exact hS.1 _ _ rfl | assumption) ?_
        rw [rm_sI]
        refine ty_aload_n (pc := 36) (i := 0) (ks := []) (by decide +kernel) rfl ?_
        refine ty_aload_n (pc := 37) (i := 0) (ks := []) (by decide +kernel) rfl ?_
        refine ty_getS (b := (78, 0)) (pc := 38) (idx := 90) (ci := 13) (f := 48) (by decide +kernel) (by first | rfl | assumption) rfl (by first | exact hS.1 _ _ rfl | assumption) (by first | exact hS.2.2 _ _ _ _ rfl | assumption) ?_
        refine ty_aload_n (pc := 41) (i := 0) (ks := []) (by decide +kernel) rfl ?_
        refine ty_getI (pc := 42) (idx := 231) (ci := 13) (f := 36) (by decide +kernel) (by first | rfl | assumption) rfl (by first | exact hS.1 _ _ rfl | assumption) (fun v hv => ?_)
        simp (decide := true) only [rm_I, rm_u, rm_w, ty_sI, ty_sR, ty_sA, ty_sQ, ty_mA, ty_mQ, ↓reduceIte, false_and, and_false, true_and, and_true, and_self] at hv
        subst hv
        refine ty_iaload (pc := 45) (ks := []) (by decide +kernel) (by first | rfl | assumption) (by rfl) (by first | exact hS.1 _ _ rfl | assumption) (by first | exact hS.2.1 _ _ _ rfl | assumption) (by omega) (fun v hv => ?_)
        rw [rm_A (by decide)] at hv
        first | (simp (decide := true) only [rm_w, ty_sI, ty_sR, ty_sA, ty_sQ, ty_mA, ty_mQ, ↓reduceIte, false_and, and_false, true_and, and_true, and_self] at hv) | skip
        subst hv
        -- at 46: .invokevirtual 240
        refine ty_callv (pc := 46) (idx := 240) (m := 134) (n := 2) (c := 13) (vs := [_]) (r := []) (by decide +kernel) rfl rfl (Nat.le_of_ble_eq_true rfl) (by first | rfl | assumption) (by first | exact hS.1 _ _ rfl | assumption) ((rm_value (L := L) (xs := xs) (A := A) d hS hbw hbd hnc.2 hmade v1 v2).deeper (by omega)) ?_
        rintro _ S1 ⟨x, rfl, hx, rfl⟩
        refine ty_KI ?_
        rw [mo_vv_nf hw o1] at hx
        refine ty_istore_n (pc := 49) (i := 1) (ks := []) (ls' := [_, _, _, _, _, _, _]) (by decide +kernel) rfl ?_
        refine ty_aload_n (pc := 50) (i := 0) (ks := []) (by decide +kernel) rfl ?_
        refine ty_aload_n (pc := 51) (i := 0) (ks := []) (by decide +kernel) rfl ?_
        refine ty_getS (b := (79, 0)) (pc := 52) (idx := 93) (ci := 13) (f := 49) (by decide +kernel) (by first | rfl | assumption) rfl (by first | exact hS.1 _ _ rfl | assumption) (by first | exact hS.2.2 _ _ _ _ rfl | assumption) ?_
        refine ty_aload_n (pc := 55) (i := 0) (ks := []) (by decide +kernel) rfl ?_
        refine ty_getI (pc := 56) (idx := 231) (ci := 13) (f := 36) (by decide +kernel) (by first | rfl | assumption) rfl (by first | exact hS.1 _ _ rfl | assumption) (fun v hv => ?_)
        simp (decide := true) only [rm_I, rm_u, rm_w, ty_sI, ty_sR, ty_sA, ty_sQ, ty_mA, ty_mQ, ↓reduceIte, false_and, and_false, true_and, and_true, and_self] at hv
        subst hv
        refine ty_iaload (pc := 59) (ks := []) (by decide +kernel) (by first | rfl | assumption) (by rfl) (by first | exact hS.1 _ _ rfl | assumption) (by first | exact hS.2.1 _ _ _ rfl | assumption) (by omega) (fun v hv => ?_)
        rw [rm_A (by decide)] at hv
        first | (simp (decide := true) only [rm_w, ty_sI, ty_sR, ty_sA, ty_sQ, ty_mA, ty_mQ, ↓reduceIte, false_and, and_false, true_and, and_true, and_self] at hv) | skip
        subst hv
        -- at 60: .invokevirtual 240
        refine ty_callv (pc := 60) (idx := 240) (m := 134) (n := 2) (c := 13) (vs := [_]) (r := []) (by decide +kernel) rfl rfl (Nat.le_of_ble_eq_true rfl) (by first | rfl | assumption) (by first | exact hS.1 _ _ rfl | assumption) ((rm_value (L := L) (xs := xs) (A := A) d hS hbw hbd hnc.2 hmade w1 w2).deeper (by omega)) ?_
        rintro _ S1 ⟨y, rfl, hy, rfl⟩
        refine ty_KI ?_
        rw [mo_vv_nf hw o2] at hy
        refine ty_istore_n (pc := 63) (i := 2) (ks := []) (ls' := [_, _, _, _, _, _, _]) (by decide +kernel) rfl ?_
        -- at 64: .iload_n 1
        refine rs_1 d hS hw hmade (dn := dn) hR1 (show I 32 + 4 ≤ 4 * (st + 1) by omega) (show I 37 + 1 ≤ st + 1 by omega) hcw (by omega) hx hy hi1 hi2 ?_ ?_
        · intro I' A' u y3 y4 y5 y6 hu hRu hfu
          rw [hu] at fin
          obtain ⟨j1, j2, j3, j4, j5⟩ := mo_u1_inv hw (by omega) hu hi1 hi2 hbw hcw (fun q hq => hpo q (List.mem_cons_of_mem _ hq))
          obtain ⟨ups, ubd, uch, uwk, ufl⟩ := u
          simp only at j1 j2 j3 j4 j5
          exact ih (st + 1) I' A' ups ubd uch uwk ufl _ _ _ _ _ _ (by omega) hRu (by omega) j1 j2 j3 (fun o S' hq => fin o S' (rs_un_tr (hf1.trans hfu) hq))
        · intro hu
          rw [hu] at fin
          exact fin _ _ ⟨0, rfl, rfl, _, A, ps, rfl, hR1, hf1⟩
theorem rm_same (d : Nat) (hS : ty_st S) (hw : mo_wf G) (hmade : made ≤ 13000) {dn : List Int} {tr : Bool} {st : Int} {I : Nat → Int} {A : Nat → Int → Int} {ps : List (Int × Int)} {bd : Int → Int} {ch : Int → List Int} {wk : List Int} (hR : rs_R (rm_u (rm_u I 39 0) 37 0) A G ta nc made ns tr st 0 (ps, bd, ch, wk, false)) (hlen : ps.length ≤ 3) (hpo : mo_po G made ps) (hbw : mo_bw G made bd) (hcw : mo_cw made ns bd ch (dn ++ wk)) :
    ty_C L xs (d + 4) 132 [.inr (.inr (some (94, 0)))] (rm_s S I A) (rs_un S I A G ta nc made ns tr (mo_ur G tr st (ps, bd, ch, wk, false))) := by
  have hst := hR.1.2
  refine ty_enter (ml := 7) (ls := [_, _, _, _, _, _, _]) rfl rfl (Nat.le_of_ble_eq_true rfl) ?_
  refine ty_aload_n (pc := 0) (i := 0) (ks := []) (by decide +kernel) rfl ?_
  refine ty_iconst (pc := 1) (n := 0) (ks := []) (by decide +kernel) ?_
  refine ty_putZ (pc := 2) (idx := 228) (ci := 13) (f := 39) (by decide +kernel) (by first | rfl | assumption) rfl rfl (by first | exact hS.1 _ _ rfl | assumption) (by omega) ?_
  rw [rm_sI]
  refine ty_aload_n (pc := 5) (i := 0) (ks := []) (by decide +kernel) rfl ?_
  refine ty_iconst (pc := 6) (n := 0) (ks := []) (by decide +kernel) ?_
  refine ty_putI (pc := 7) (idx := 234) (ci := 13) (f := 37) (by decide +kernel) (by first | rfl | assumption) rfl rfl (by first | exact hS.1 _ _ rfl | assumption) ?_
  rw [rm_sI]
  -- at 10: .aload_n 0
  refine rs_loop d hS hw hmade (dn := dn) _ st _ A ps bd ch wk false _ _ _ _ _ _ rfl hR (by omega) hpo hbw hcw (fun o S' hq => rs_un_tr ?_ hq)
  exact ⟨fun k h1 h2 h3 h4 h5 h6 => (if_neg h6).trans (if_neg h5), fun _ _ _ _ _ _ _ _ _ _ => rfl, fun _ => ⟨rfl, rfl, rfl, rfl⟩, rt_ud_e rfl rfl rfl⟩
end RSS
