/-! The reference makes one pair same. -/
theorem rm_head_r {made ns : Int} {bd f e x : Int → Int} {ch : Int → List Int} {w : List Int} (h : cv_rv bd f e x made bd ch) (hc : mo_cw made ns bd ch w) (hns : ns ≤ 500) {v : Int} (hv : 0 ≤ v ∧ v < made ∧ bd v = mo_F) : (-1 ≤ f v ∧ f v < 500) ∧ (-1 ≤ e v ∧ e v < 500) ∧ (f v < 0 ↔ ch v = []) ∧ (e v = -1 ↔ ch v = []) ∧ (0 ≤ f v → 0 ≤ e v) := by
  obtain ⟨l1, l2⟩ := h.2 v hv.1 hv.2.1 hv.2.2
  have hm := (hc.1 v hv.1 hv.2.1 hv.2.2).1
  cases hl : ch v with
  | nil =>
    rw [hl] at l1 l2
    have l1 : f v = -1 := l1
    have l2 : e v = -1 := l2
    refine ⟨by omega, by omega, ⟨fun _ => rfl, fun _ => by omega⟩, ⟨fun _ => rfl, fun _ => l2⟩, fun z => by omega⟩
  | cons c cs =>
    rw [hl] at l1 l2 hm
    have l1 : f v = c := l1.1
    have h1 := hm c List.mem_cons_self
    have h2 := hm _ (mo_last_mem (l := c :: cs) (by simp))
    rw [← l2] at h2
    exact ⟨by omega, by omega, ⟨fun z => by omega, fun z => by simp at z⟩, ⟨fun z => by omega, fun z => by simp at z⟩, fun _ => by omega⟩
section RSP
variable {L : Nat} {xs : Nat → Int32} {S : ty_S} {G : mo_G} {ta : Int → Int} {nc made ns : Int}
theorem rs_tie {I : Nat → Int} {A A1 : Nat → Int → Int} {tr : Bool} {st : Int} {ps : List (Int × Int)} {bd : Int → Int} {ch : Int → List Int} {wk : List Int} {fl : Bool} (h : rs_R I A G ta nc made ns tr st 0 (ps, bd, ch, wk, fl)) {v t T : Int} (hT : T ≠ mo_F) (ht : rm_v ta nc t T) (htl : I 32 + 4 ≤ 4 * st) (h1 : A1 63 = mo_up (A 63) v t) (h2 : ∀ q, q ≠ 63 → q ≠ 71 → q ≠ 72 → A1 q = A q) (h3 : rt_ok (A1 71) (I 32 + 1)) : rs_R (rm_u (rm_u I 32 (I 32 + 1)) 39 1) A1 G ta nc made ns tr st 0 (ps, mo_up bd v T, ch, wk, true) := by
  obtain ⟨a1, a2, a3, a4, a5, a6, a7, a8, a9, a10⟩ := h
  refine ⟨a1, a2, ⟨⟨show 0 ≤ I 32 + 1 by omega, show I 32 + 1 ≤ 4 * st by omega⟩, h3⟩, ?_, ⟨rfl, a5.2⟩, ⟨a6.1, fun z => ?_⟩, fun u u0 u1 => ?_, ?_, fun c c0 c1 => rm_cell_e (a9 c c0 c1) (h2 _ (by decide) (by decide) (by decide)) (h2 _ (by decide) (by decide) (by decide)) (h2 _ (by decide) (by decide) (by decide)), a10⟩
  · rw [h2 78 (by decide) (by decide) (by decide), h2 79 (by decide) (by decide) (by decide)]
    exact a4
  · rw [h2 80 (by decide) (by decide) (by decide), h2 74 (by decide) (by decide) (by decide)]
    exact a6.2 z
  · rw [h1]
    show rm_b ta nc (mo_up (A 63) v t u) (mo_up bd v T u)
    unfold mo_up
    by_cases e : u = v
    · rw [if_pos e, if_pos e]
      exact .inr ⟨hT, ht⟩
    · rw [if_neg e, if_neg e]
      exact a7 u u0 u1
  · rw [h2 64 (by decide) (by decide) (by decide), h2 65 (by decide) (by decide) (by decide), h2 74 (by decide) (by decide) (by decide)]
    exact cv_rv_bind a8 hT
theorem rs_tie_fm {I : Nat → Int} {A A1 : Nat → Int → Int} {tr : Bool} {v t : Int} (h2 : ∀ q, q ≠ 63 → q ≠ 71 → q ≠ 72 → A1 q = A q) (h4 : rt_ud A (I 32) A1 (I 32 + 1)) : rs_fm tr I A (rm_u (rm_u I 32 (I 32 + 1)) 39 1) A1 := by
  refine ⟨fun k h1 h2 h3 h4 h5 h6 => (if_neg h5).trans (if_neg h3), fun q g1 g2 g3 _ _ _ _ _ _ => h2 q g3 g1 g2, fun _ => ⟨h2 _ (by decide) (by decide) (by decide), h2 _ (by decide) (by decide) (by decide), h2 _ (by decide) (by decide) (by decide), h2 _ (by decide) (by decide) (by decide)⟩, h4⟩
/-- two variables are tied; from the code behind the test whether they are one -/
theorem rs_two (d : Nat) (hS : ty_st S) (hmade : made ≤ 13000) {dn : List Int} {tr : Bool} {st : Int} {I : Nat → Int} {A : Nat → Int → Int} {ps : List (Int × Int)} {bd : Int → Int} {ch : Int → List Int} {wk : List Int} {fl : Bool} (hR : rs_R I A G ta nc made ns tr st 0 (ps, bd, ch, wk, fl)) (htl : I 32 + 4 ≤ 4 * st) (hcw : mo_cw made ns bd ch (dn ++ wk)) {lo hi : Int} (hl : 0 ≤ lo ∧ lo < hi ∧ hi < made ∧ bd lo = mo_F ∧ bd hi = mo_F) {Q : ai_O → ty_S → Prop} {x1 x2 x3 x4 : Int32}
    (cont : ∀ I' A', rs_R I' A' G ta nc made ns tr st 0 (ps, mo_up bd hi (-1 - lo), (if tr = true then ch else mo_upc ch lo (ch lo ++ ch hi)), wk, true) → rs_fm tr I A I' A' → ty_W L xs (d + 3) 132 10 [some (.inr (.inr (some (94, 0)))), some (.inl x1), some (.inl x2), some (.inl x3), some (.inl x4), some (.inl (ty_J lo)), some (.inl (ty_J hi))] [] (rm_s S I' A') Q) :
    ty_W L xs (d + 3) 132 118 [some (.inr (.inr (some (94, 0)))), some (.inl x1), some (.inl x2), some (.inl x3), some (.inl x4), some (.inl (ty_J lo)), some (.inl (ty_J hi))] [] (rm_s S I A) Q := by
  have hT : (-1 - lo) ≠ mo_F := mo_ne_F (.inl (by omega))
  have hst := hR.1
  have htr := hR.2.2.1
  have hns : 0 ≤ ns ∧ ns ≤ 500 := hR.2.2.2.2.2.2.2.2.2.2.2
  have hb := hR.2.2.2.2.2.2.1 hi (by omega) hl.2.2.1
  have hbf : A 63 hi = 2147483647 := by
    rcases hb with q | q
    · exact q.2
    · exact absurd hl.2.2.2.2 q.1
  have hrv := hR.2.2.2.2.2.2.2.1
  obtain ⟨g1, g2, g3, g4, g5⟩ := rm_head_r hrv hcw hns.2 (v := hi) ⟨by omega, hl.2.2.1, hl.2.2.2.2⟩
  obtain ⟨k1, k2, k3, k4, k5⟩ := rm_head_r hrv hcw hns.2 (v := lo) ⟨by omega, by omega, hl.2.2.2.1⟩
  refine ty_aload_n (pc := 118) (i := 0) (ks := []) (by decide +kernel) rfl ?_
  refine ty_iload (pc := 119) (i := 6) (ks := []) (by decide +kernel) rfl ?_
  refine ty_iconst (pc := 121) (n := (-1)) (ks := []) (by decide +kernel) ?_
  refine ty_iload (pc := 122) (i := 5) (ks := []) (by decide +kernel) rfl ?_
  refine ty_isub (pc := 124) (ks := []) (by decide +kernel) ?_
  -- at 125: .invokevirtual 243
  refine ty_callv (pc := 125) (idx := 243) (m := 135) (n := 3) (c := 13) (vs := [_, _]) (r := []) (by decide +kernel) rfl rfl (Nat.le_of_ble_eq_true rfl) (by first | rfl | assumption) (by first | exact hS.1 _ _ rfl | assumption) ((rm_tie (L := L) (xs := xs) (I := I) (A := A) d hS rfl ⟨htr.1.1, by omega⟩ ⟨by omega, by omega⟩ hbf htr.2).deeper (by omega)) ?_
  rintro _ S1 ⟨rfl, A1, rfl, t1, t2, t3, t4⟩
  refine ty_KV ?_
  have hR1 := rs_tie hR hT (.inl ⟨by omega, rfl⟩) htl t1 t2 t4
  have hf1 := rs_tie_fm (tr := tr) (v := hi) (t := -1 - lo) t2 t3
  have htry : I 40 = if tr = true then 1 else 0 := hR.2.2.2.2.1.2
  have eH : A1 64 = A 64 := t2 _ (by decide) (by decide) (by decide)
  have eT : A1 65 = A 65 := t2 _ (by decide) (by decide) (by decide)
  have eN : A1 74 = A 74 := t2 _ (by decide) (by decide) (by decide)
  cases tr with
  | true =>
    refine ty_aload_n (pc := 128) (i := 0) (ks := []) (by decide +kernel) rfl ?_
    refine ty_getI (pc := 129) (idx := 246) (ci := 13) (f := 40) (by decide +kernel) (by first | rfl | assumption) rfl (by first | exact hS.1 _ _ rfl | assumption) (fun v hv => ?_)
    simp (decide := true) only [rm_I, rm_u, rm_w, ty_sI, ty_sR, ty_sA, ty_sQ, ty_mA, ty_mQ, ↓reduceIte, false_and, and_false, true_and, and_true, and_self] at hv
    subst hv
    -- at 132: .ifCond .ne 23
    rw [htry]
    refine ty_if_ne (pc := 132) (off := 23) (t := 155) (ks := []) (by decide +kernel) (by omega) (fun hc => ?_) (fun hc => ?_)
    · refine ty_goto (pc := 155) (off := 161) (t := 316) (ks := []) (by decide +kernel) ?_
      refine ty_goto (pc := 316) (off := (-306)) (t := 10) (ks := []) (by decide +kernel) ?_
      -- at 10: .aload_n 0
      exact cont _ _ hR1 hf1
    · exact absurd hc (by decide)
  | false =>
    refine ty_aload_n (pc := 128) (i := 0) (ks := []) (by decide +kernel) rfl ?_
    refine ty_getI (pc := 129) (idx := 246) (ci := 13) (f := 40) (by decide +kernel) (by first | rfl | assumption) rfl (by first | exact hS.1 _ _ rfl | assumption) (fun v hv => ?_)
    simp (decide := true) only [rm_I, rm_u, rm_w, ty_sI, ty_sR, ty_sA, ty_sQ, ty_mA, ty_mQ, ↓reduceIte, false_and, and_false, true_and, and_true, and_self] at hv
    subst hv
    -- at 132: .ifCond .ne 23
    rw [htry]
    refine ty_if_ne (pc := 132) (off := 23) (t := 155) (ks := []) (by decide +kernel) (by omega) (fun hc => ?_) (fun hc => ?_)
    · exact absurd rfl hc
    clear hc
    refine ty_aload_n (pc := 135) (i := 0) (ks := []) (by decide +kernel) rfl ?_
    refine ty_iload (pc := 136) (i := 5) (ks := []) (by decide +kernel) rfl ?_
    refine ty_aload_n (pc := 138) (i := 0) (ks := []) (by decide +kernel) rfl ?_
    refine ty_getS (b := (64, 0)) (pc := 139) (idx := 48) (ci := 13) (f := 18) (by decide +kernel) (by first | rfl | assumption) rfl (by first | exact hS.1 _ _ rfl | assumption) (by first | exact hS.2.2 _ _ _ _ rfl | assumption) ?_
    refine ty_iload (pc := 142) (i := 6) (ks := []) (by decide +kernel) rfl ?_
    refine ty_iaload (pc := 144) (ks := []) (by decide +kernel) (by first | rfl | assumption) (by rfl) (by first | exact hS.1 _ _ rfl | assumption) (by first | exact hS.2.1 _ _ _ rfl | assumption) (by omega) (fun v hv => ?_)
    rw [rm_A (by decide)] at hv
    first | (simp (decide := true) only [rm_w, ty_sI, ty_sR, ty_sA, ty_sQ, ty_mA, ty_mQ, ↓reduceIte, false_and, and_false, true_and, and_true, and_self] at hv) | skip
    subst hv
    refine ty_aload_n (pc := 145) (i := 0) (ks := []) (by decide +kernel) rfl ?_
    refine ty_getS (b := (65, 0)) (pc := 146) (idx := 51) (ci := 13) (f := 19) (by decide +kernel) (by first | rfl | assumption) rfl (by first | exact hS.1 _ _ rfl | assumption) (by first | exact hS.2.2 _ _ _ _ rfl | assumption) ?_
    refine ty_iload (pc := 149) (i := 6) (ks := []) (by decide +kernel) rfl ?_
    refine ty_iaload (pc := 151) (ks := []) (by decide +kernel) (by first | rfl | assumption) (by rfl) (by first | exact hS.1 _ _ rfl | assumption) (by first | exact hS.2.1 _ _ _ rfl | assumption) (by omega) (fun v hv => ?_)
    rw [rm_A (by decide)] at hv
    first | (simp (decide := true) only [rm_w, ty_sI, ty_sR, ty_sA, ty_sQ, ty_mA, ty_mQ, ↓reduceIte, false_and, and_false, true_and, and_true, and_self] at hv) | skip
    subst hv
    -- at 152: .invokevirtual 249
    rw [eH, eT]
    refine ty_callv (pc := 152) (idx := 249) (m := 137) (n := 4) (c := 13) (vs := [_, _, _]) (r := []) (by decide +kernel) rfl rfl (Nat.le_of_ble_eq_true rfl) (by first | rfl | assumption) (by first | exact hS.1 _ _ rfl | assumption) ((rm_follow (L := L) (xs := xs) (I := rm_u (rm_u I 32 (I 32 + 1)) 39 1) (A := A1) d hS (tl := I 32 + 1) rfl ⟨by omega, by omega⟩ ⟨by omega, by omega⟩ (by rw [eH]; omega) (by rw [eH, eT]; omega) ⟨by omega, by omega⟩ t4).deeper (by omega)) ?_
    rintro _ S1 ⟨rfl, A2, tl', rfl, u1, u2, u3, u4, u5, u6⟩
    refine ty_KV ?_
    refine ty_goto (pc := 155) (off := 161) (t := 316) (ks := []) (by decide +kernel) ?_
    refine ty_goto (pc := 316) (off := (-306)) (t := 10) (ks := []) (by decide +kernel) ?_
    -- at 10: .aload_n 0
    refine cont _ _ ?_ ?_
    · obtain ⟨a1, a2, a3, a4, a5, a6, a7, a8, a9, a10⟩ := hR1
      refine ⟨a1, a2, ⟨⟨show 0 ≤ tl' by omega, show tl' ≤ 4 * st by omega⟩, u6⟩, ?_, a5, ⟨a6.1, fun z => ?_⟩, fun u v0 v1 => ?_, ?_, fun c c0 c1 => rm_cell_e (a9 c c0 c1) (u4 _ (by decide) (by decide) (by decide) (by decide) (by decide)) (u4 _ (by decide) (by decide) (by decide) (by decide) (by decide)) (u4 _ (by decide) (by decide) (by decide) (by decide) (by decide)), a10⟩
      · rw [u4 78 (by decide) (by decide) (by decide) (by decide) (by decide), u4 79 (by decide) (by decide) (by decide) (by decide) (by decide)]
        exact a4
      · rw [u4 80 (by decide) (by decide) (by decide) (by decide) (by decide)]
        refine rm_wk_sn (a6.2 z) (fun e he => ?_)
        by_cases e0 : 0 ≤ A 64 hi
        · rw [(u3 e0).2.2]
          split
          · rfl
          · next hq =>
            refine if_neg (fun q => ?_)
            rw [eH] at hq
            rw [eT] at q
            have hne : ch lo ≠ [] := fun w => hq (k3.mpr w)
            have hml := mo_last_mem hne
            rw [← (hrv.2 lo hl.1 (by omega) hl.2.2.2.1).2, ← q] at hml
            exact (hcw.1 lo hl.1 (by omega) hl.2.2.2.1).2.2 e hml (List.mem_append.mpr (.inr he))
        · rw [(u2 (by omega)).1]
      · rw [u4 63 (by decide) (by decide) (by decide) (by decide) (by decide)]
        exact a7 u v0 v1
      · show cv_rv _ _ _ _ _ _ (if false = true then ch else mo_upc ch lo (ch lo ++ ch hi))
        rw [if_neg (by decide)]
        by_cases e0 : 0 ≤ A 64 hi
        · have hne : ch hi ≠ [] := fun w => by have := g3.mpr w; omega
          obtain ⟨w1, w2, w3⟩ := u3 e0
          have := cv_rv_link hrv hcw hT hl hne
          rw [w1, w2, w3, eH, eT, eN]
          by_cases e1 : ch lo = []
          · rw [if_pos (k4.mpr e1), if_pos (k4.mpr e1)] at this
            rw [if_pos (k3.mpr e1), if_pos (k3.mpr e1)]
            exact this
          · rw [if_neg (fun q => e1 (k4.mp q)), if_neg (fun q => e1 (k4.mp q))] at this
            rw [if_neg (fun q => e1 (k3.mp q)), if_neg (fun q => e1 (k3.mp q))]
            exact this
        · rw [(u2 (by omega)).1]
          have hnil : ch hi = [] := g3.mp (by omega)
          have : mo_upc ch lo (ch lo ++ ch hi) = ch := by
            funext j
            unfold mo_upc
            split
            · next q => rw [q, hnil, List.append_nil]
            · rfl
          rw [this]
          exact a8
    · refine hf1.trans ⟨fun k h1 h2 h3 h4 h5 h6 => if_neg h3, fun q h1 h2 h3 h4 h5 h6 h7 h8 h9 => u4 q h4 h5 h6 h1 h2, fun z => absurd z (by decide), u5⟩
end RSP
