/-! The reference builds a text's goals. -/
theorem bg_seg_add {G : mo_G} {ta ta' : Int → Int} {nc nc' : Int} {A A' : Nat → Int → Int} {ng0 behind : Int} {gl : List mo_Go} {go : mo_Go} (h : bg_seg G ta nc A ng0 behind gl) (hk : ∀ i : Nat, i < gl.length → ∀ g, rm_g1 G ta nc A (ng0 + i) g → rm_g1 G ta' nc' A' (ng0 + i) g) (hn : ∀ i : Nat, i + 1 < gl.length → A' 70 (ng0 + i) = A 70 (ng0 + i)) (hl : gl ≠ [] → A' 70 (ng0 + gl.length - 1) = ng0 + gl.length) (hg : rm_g1 G ta' nc' A' (ng0 + gl.length) go) (hx : A' 70 (ng0 + gl.length) = behind) : bg_seg G ta' nc' A' ng0 behind (gl ++ [go]) := by
  intro i g hi
  rw [List.length_append]
  simp only [List.length_cons, List.length_nil]
  by_cases e : i < gl.length
  · rw [List.getElem?_append_left e] at hi
    obtain ⟨a1, a2⟩ := h i g hi
    refine ⟨hk i e g a1, ?_⟩
    rw [if_pos (by omega)]
    by_cases e2 : i + 1 < gl.length
    · rw [hn i e2, a2, if_pos e2]
    · have := hl (fun z => by rw [z] at e; simp at e)
      rw [show ng0 + (gl.length : Int) - 1 = ng0 + i by omega] at this
      rw [this]
      omega
  · rw [List.getElem?_append_right (by omega)] at hi
    have ei : i = gl.length := by
      by_cases q : i - gl.length = 0
      · omega
      · rw [List.getElem?_eq_none (by simp; omega)] at hi
        exact absurd hi (by simp)
    subst ei
    simp only [Nat.sub_self, List.getElem?_cons_zero, Option.some.injEq] at hi
    subst hi
    exact ⟨hg, by rw [hx, if_neg (by omega)]⟩
theorem rm_gw_n {A : Nat → Int → Int} {g k x y b n : Int} {q : Nat} {j : Int} (h : j ≠ g) : (rm_w (rm_w (rm_w (rm_w (rm_w A 66 g k) 67 g x) 68 g y) 69 g b) 70 g n) q j = A q j := by simp [rm_w, h]
theorem rm_gw_g {A : Nat → Int → Int} {g k x y b n : Int} {A' : Nat → Int → Int} (h : A' = rm_w (rm_w (rm_w (rm_w (rm_w A 66 g k) 67 g x) 68 g y) 69 g b) 70 g n) : A' 66 g = k ∧ A' 67 g = x ∧ A' 68 g = y ∧ A' 69 g = b ∧ A' 70 g = n := by
  subst h
  simp [rm_w]
/-- what stands for a term that is no variable is a cell -/
theorem rm_t_pos {G : mo_G} {made : Int} {ta : Int → Int} {nc x t : Int} (h : rm_t G ta nc x t) (ht : mo_ok G made t) (hl : ¬ (65 ≤ mo_l G t ∧ mo_l G t ≤ 90)) : 0 ≤ x := by
  rcases h with ⟨z1, z2⟩ | z
  · unfold rm_nf at z2
    rw [if_neg hl] at z2
    have := ht.1
    omega
  · exact z.1
section RMBG
variable {L : Nat} {xs : Nat → Int32} {S : ty_S}
/-- what building goals comes to -/
def bg_post (S : ty_S) (G : mo_G) (made bs : Int) (t : List Int) (mp : Int → Int) (nc0 ng0 behind p0 : Int) (I0 : Nat → Int) (A0 : Nat → Int → Int) (ta0 : Int → Int) (gl : List mo_Go) : ai_O → ty_S → Prop := ty_oI fun z S' => ∃ I' A' ta' nc', S' = rm_s S I' A' ∧ bg_inv G made bs t mp nc0 ng0 I0 A0 ta0 nc' (ng0 + gl.length) I' A' ta' ∧ bg_seg G ta' nc' A' ng0 behind gl ∧ z = (if gl = [] then behind else ng0) ∧ 2 * (nc' - nc0) ≤ t.length + 1 - p0
theorem bg_loop (d : Nat) (hS : ty_st S) {G : mo_G} {made bs : Int} {T : Int → Int} {t : List Int} {mp : Int → Int} {NN : pt_N} (hw : mo_wf G) (hmade : made ≤ 100000) (hT : bt_T G made T (dk_f t) mp NN) {nc0 ng0 p0 b behind : Int} {I0 : Nat → Int} {A0 : Nat → Int → Int} {ta0 : Int → Int} (hn0 : 0 ≤ nc0 ∧ nc0 + 100 ≤ 24000) (hg0 : 0 ≤ ng0 ∧ ng0 + 60 ≤ 14000) (hp0 : 0 ≤ p0) : ∀ (m : Nat) (p nc : Int) (gl : List mo_Go) (I : Nat → Int) (A : Nat → Int → Int) (ta : Int → Int) (x5 : Option Int32) (x6 x7 x8 : Option ai_V),
    bg_inv G made bs t mp nc0 ng0 I0 A0 ta0 nc (ng0 + gl.length) I A ta → bg_seg G ta nc A ng0 behind gl → I 12 = bs + p → p0 ≤ p → p ≤ t.length → 2 * (nc - nc0) ≤ p - p0 → gl.length + m ≤ 50 → (pt_gs (dk_f t) m p).1 = true → (∀ q as, (q, as) ∈ (pt_gs (dk_f t) m p).2.2.2 → (q, as) ∈ NN) →
    ty_W L xs (d + 2) 118 5 [some (.inr (.inr (some (94, 0)))), some (.inl (ty_J b)), some (.inl (ty_J behind)), some (.inl (ty_J (if gl = [] then -1 else ng0))), some (.inl (ty_J (if gl = [] then -1 else ng0 + gl.length - 1))), x5.map .inl, x6, x7, x8] [] (rm_s S I A) (bg_post S G made bs t mp nc0 ng0 behind p0 I0 A0 ta0 (gl ++ (pt_gs (dk_f t) m p).2.2.1.map (bg_f T b))) := by
  have hn : ∀ p, (t.length : Int) ≤ p → dk_f t p = 0 := fun p hp => dk_f_n hp
  intro m
  induction m with
  | zero => intro p nc gl I A ta x5 x6 x7 x8 _ _ _ _ _ _ _ hok; exact absurd (show false = true from hok) (by decide)
  | succ m ih =>
    intro p nc gl I A ta x5 x6 x7 x8 hinv hseg hso hp hpl hnc hlm hok hNN
    have hsrc := hinv.1
    have h48 := hsrc.2.1
    have hbs := hsrc.2.2.2.1
    have hend := hsrc.1
    -- one goal was made: go on
    have on : ∀ (p1 nc1 : Int) (go : Int × Int × Int) (NG : pt_N) (I1 : Nat → Int) (A1 : Nat → Int → Int) (ta1 : Int → Int) (x6 x7 x8 : Option ai_V), pt_g (dk_f t) p = (true, p1, go, NG) → bg_inv G made bs t mp nc0 ng0 I0 A0 ta0 nc1 (ng0 + gl.length + 1) I1 A1 ta1 → (∀ i : Nat, i < gl.length → ∀ g, rm_g1 G ta nc A (ng0 + i) g → rm_g1 G ta1 nc1 A1 (ng0 + i) g) → (∀ i : Nat, i < gl.length → A1 70 (ng0 + i) = A 70 (ng0 + i)) → rm_g1 G ta1 nc1 A1 (ng0 + gl.length) (bg_f T b go) → A1 70 (ng0 + gl.length) = behind → I1 12 = bs + p1 → 2 * (nc1 - nc) ≤ p1 - p + 1 →
        ty_W L xs (d + 2) 118 158 [some (.inr (.inr (some (94, 0)))), some (.inl (ty_J b)), some (.inl (ty_J behind)), some (.inl (ty_J (if gl = [] then -1 else ng0))), some (.inl (ty_J (if gl = [] then -1 else ng0 + gl.length - 1))), some (.inl (ty_J (ng0 + gl.length))), x6, x7, x8] [] (rm_s S I1 A1) (bg_post S G made bs t mp nc0 ng0 behind p0 I0 A0 ta0 (gl ++ (pt_gs (dk_f t) (m + 1) p).2.2.1.map (bg_f T b))) := by
      intro p1 nc1 go NG I1 A1 ta1 x6 x7 x8 hgo hinv1 hk hnx hg hx hso1 hnc1
      obtain ⟨s1, s2, s3⟩ := pt_g_spec hn (show 0 ≤ p by omega) hpl
      rw [hgo] at s1 s2 s3
      have s4 := (s3 rfl).1
      simp only at s1 s2 s4
      clear s3
      -- after it
      have fin : ∀ (A2 : Nat → Int → Int), bg_inv G made bs t mp nc0 ng0 I0 A0 ta0 nc1 (ng0 + gl.length + 1) (rm_u I1 12 (bs + p1 + 1)) A2 ta1 → bg_seg G ta1 nc1 A2 ng0 behind (gl ++ [bg_f T b go]) → ty_W L xs (d + 2) 118 5 [some (.inr (.inr (some (94, 0)))), some (.inl (ty_J b)), some (.inl (ty_J behind)), some (.inl (ty_J ng0)), some (.inl (ty_J (ng0 + gl.length))), some (.inl (ty_J (ng0 + gl.length))), x6, x7, x8] [] (rm_s S (rm_u I1 12 (bs + p1 + 1)) A2) (bg_post S G made bs t mp nc0 ng0 behind p0 I0 A0 ta0 (gl ++ (pt_gs (dk_f t) (m + 1) p).2.2.1.map (bg_f T b))) := by
        intro A2 hinv2 hseg2
        have hlen : ((gl ++ [bg_f T b go]).length : Int) = gl.length + 1 := by simp
        have hne : ¬ (gl ++ [bg_f T b go]) = [] := by simp
        have step : pt_gs (dk_f t) (m + 1) p = if dk_f t p1 = 0 then (true, p1, [go], NG) else if dk_f t p1 ≠ 44 then (false, p1, [], NG) else ((pt_gs (dk_f t) m (p1 + 1)).1, (pt_gs (dk_f t) m (p1 + 1)).2.1, go :: (pt_gs (dk_f t) m (p1 + 1)).2.2.1, NG ++ (pt_gs (dk_f t) m (p1 + 1)).2.2.2) := by
          show (if (pt_g (dk_f t) p).1 = false then _ else _) = _
          rw [hgo, if_neg (show ¬ (true = false) by decide)]
        rw [step] at hok hNN ⊢
        by_cases e0 : dk_f t p1 = 0
        · rw [if_pos e0]
          have hz : p1 = t.length := by
            rcases (show p1 = t.length ∨ p1 < t.length by omega) with z | z
            · exact z
            · have := hsrc.2.2.1 _ (dk_f_mem (t := t) (p := p1) ⟨by omega, z⟩)
              omega
          have hend2 : I1 13 = bs + t.length := hinv1.1.1
          have hse : (rm_u I1 12 (bs + p1 + 1)) 13 = bs + t.length := hend2
          refine ty_aload_n (pc := 5) (i := 0) (ks := []) (by decide +kernel) rfl ?_
          refine ty_getI (pc := 6) (idx := 184) (ci := 13) (f := 12) (by decide +kernel) (by first | rfl | assumption) rfl (by first | exact hS.1 _ _ rfl | assumption) (fun v hv => ?_)
          simp (decide := true) only [rm_I, rm_u, rm_w, ty_sI, ty_sR, ty_sA, ty_sQ, ty_mA, ty_mQ, ↓reduceIte, false_and, and_false, true_and, and_true, and_self] at hv
          subst hv
          refine ty_aload_n (pc := 9) (i := 0) (ks := []) (by decide +kernel) rfl ?_
          refine ty_getI (pc := 10) (idx := 181) (ci := 13) (f := 13) (by decide +kernel) (by first | rfl | assumption) rfl (by first | exact hS.1 _ _ rfl | assumption) (fun v hv => ?_)
          simp (decide := true) only [rm_I, rm_u, rm_w, ty_sI, ty_sR, ty_sA, ty_sQ, ty_mA, ty_mQ, ↓reduceIte, false_and, and_false, true_and, and_true, and_self] at hv
          subst hv
          -- at 13: .if_icmp .ge 182
          rw [hend2]
          refine ty_icmp_ge (pc := 13) (off := 182) (t := 195) (ks := []) (by decide +kernel) (by omega) (by omega) (fun hc => ?_) (fun hc => ?_)
          · refine ty_iload_n (pc := 195) (i := 3) (ks := []) (by decide +kernel) rfl ?_
            -- at 196: .ifCond .ge 7
            refine ty_if_ge (pc := 196) (off := 7) (t := 203) (ks := []) (by decide +kernel) (by omega) (fun hc => ?_) (fun hc => ?_)
            · refine ty_iload_n (pc := 203) (i := 3) (ks := []) (by decide +kernel) rfl ?_
              -- at 204: .ireturn
              refine ty_ret_i (pc := 204) (ks := []) (ty := .int) (by decide +kernel) rfl rfl ?_
              refine ⟨ng0, rfl, _, A2, ta1, nc1, rfl, ?_, ?_, ?_, by omega⟩
              · rw [show ((gl ++ List.map (bg_f T b) (true, p1, [go], NG).2.2.1).length : Int) = gl.length + 1 by simp, ← Int.add_assoc]
                exact hinv2
              · exact hseg2
              · rw [if_neg (by simp)]
            · omega
          · omega
        · rw [if_neg e0] at hok hNN ⊢
          by_cases e1 : dk_f t p1 ≠ 44
          · rw [if_pos e1] at hok
            exact absurd (show false = true from hok) (by decide)
          rw [if_neg e1] at hok hNN ⊢
          have hlt : p1 < t.length := by
            by_cases z : (t.length : Int) ≤ p1
            · rw [hn p1 z] at e0
              omega
            · omega
          have := ih (p1 + 1) nc1 (gl ++ [bg_f T b go]) (rm_u I1 12 (bs + p1 + 1)) A2 ta1 (some (ty_J (ng0 + gl.length))) x6 x7 x8 (by rw [hlen, ← Int.add_assoc]; exact hinv2) hseg2 ((if_pos rfl).trans (by omega)) (by omega) (by omega) (by omega) (by rw [List.length_append]; simp only [List.length_cons, List.length_nil]; omega) hok (fun q as hm => hNN q as (List.mem_append.mpr (.inr hm)))
          rw [if_neg hne, if_neg hne, hlen, show ng0 + ((gl.length : Int) + 1) - 1 = ng0 + gl.length by omega, List.append_assoc] at this
          exact this
      refine ty_aload_n (pc := 158) (i := 0) (ks := []) (by decide +kernel) rfl ?_
      refine ty_dup (pc := 159) (ks := []) (by decide +kernel) rfl ?_
      refine ty_getI (pc := 160) (idx := 184) (ci := 13) (f := 12) (by decide +kernel) (by first | rfl | assumption) rfl (by first | exact hS.1 _ _ rfl | assumption) (fun v hv => ?_)
      simp (decide := true) only [rm_I, rm_u, rm_w, ty_sI, ty_sR, ty_sA, ty_sQ, ty_mA, ty_mQ, ↓reduceIte, false_and, and_false, true_and, and_true, and_self] at hv
      subst hv
      refine ty_iconst (pc := 163) (n := 1) (ks := []) (by decide +kernel) ?_
      refine ty_iadd (pc := 164) (ks := []) (by decide +kernel) ?_
      refine ty_putI (pc := 165) (idx := 184) (ci := 13) (f := 12) (by decide +kernel) (by first | rfl | assumption) rfl rfl (by first | exact hS.1 _ _ rfl | assumption) ?_
      rw [rm_sI]
      refine ty_iload (pc := 168) (i := 4) (ks := []) (by decide +kernel) rfl ?_
      -- at 170: .ifCond .lt 15
      rw [hso1]
      by_cases eg : gl = []
      · rw [if_pos eg, if_pos eg]
        refine ty_if_lt (pc := 170) (off := 15) (t := 185) (ks := []) (by decide +kernel) (by omega) (fun hc => ?_) (fun hc => ?_)
        · refine ty_iload (pc := 185) (i := 5) (ks := []) (by decide +kernel) rfl ?_
          refine ty_istore_n (pc := 187) (i := 3) (ks := []) (ls' := [_, _, _, _, _, _, _, _, _]) (by decide +kernel) rfl ?_
          refine ty_iload (pc := 188) (i := 5) (ks := []) (by decide +kernel) rfl ?_
          refine ty_istore (pc := 190) (i := 4) (ks := []) (ls' := [_, _, _, _, _, _, _, _, _]) (by decide +kernel) rfl ?_
          refine ty_goto (pc := 192) (off := (-187)) (t := 5) (ks := []) (by decide +kernel) ?_
          -- at 5: .aload_n 0
          have e0 : (gl.length : Int) = 0 := by rw [eg]; rfl
          have := fin A1 (bg_src hinv1) (bg_seg_add hseg hk (fun i hi => by omega) (fun z => absurd eg z) hg hx)
          rw [e0, Int.add_zero] at this ⊢
          exact this
        · omega
      · rw [if_neg eg, if_neg eg]
        have hl0 : 0 < gl.length := List.length_pos_iff.mpr eg
        refine ty_if_lt (pc := 170) (off := 15) (t := 185) (ks := []) (by decide +kernel) (by omega) (fun hc => ?_) (fun hc => ?_)
        · omega
        · refine ty_aload_n (pc := 173) (i := 0) (ks := []) (by decide +kernel) rfl ?_
          refine ty_getS (b := (70, 0)) (pc := 174) (idx := 66) (ci := 13) (f := 24) (by decide +kernel) (by first | rfl | assumption) rfl (by first | exact hS.1 _ _ rfl | assumption) (by first | exact hS.2.2 _ _ _ _ rfl | assumption) ?_
          refine ty_iload (pc := 177) (i := 4) (ks := []) (by decide +kernel) rfl ?_
          refine ty_iload (pc := 179) (i := 5) (ks := []) (by decide +kernel) rfl ?_
          refine ty_iastore (pc := 181) (ks := []) (by decide +kernel) (by first | rfl | assumption) (by rfl) (by first | exact hS.1 _ _ rfl | assumption) (by first | exact hS.2.1 _ _ _ rfl | assumption) (by omega) ?_
          rw [rm_sA (by decide)]
          refine ty_goto (pc := 182) (off := 6) (t := 188) (ks := []) (by decide +kernel) ?_
          refine ty_iload (pc := 188) (i := 5) (ks := []) (by decide +kernel) rfl ?_
          refine ty_istore (pc := 190) (i := 4) (ks := []) (ls' := [_, _, _, _, _, _, _, _, _]) (by decide +kernel) rfl ?_
          refine ty_goto (pc := 192) (off := (-187)) (t := 5) (ks := []) (by decide +kernel) ?_
          -- at 5: .aload_n 0
          refine fin _ (bg_link (bg_src hinv1) (by omega)) (bg_seg_add hseg (fun i hi g q => rm_g1_keep (hk i hi g q) (Int.le_refl _) (fun _ _ _ => rfl) rfl rfl rfl rfl) (fun i hi => (if_neg (by omega)).trans (hnx i (by omega))) (fun _ => if_pos ⟨rfl, by omega⟩) (rm_g1_keep hg (Int.le_refl _) (fun _ _ _ => rfl) rfl rfl rfl rfl) ((if_neg (by omega)).trans hx))
    have hgok : (pt_g (dk_f t) p).1 = true := by
      cases e : (pt_g (dk_f t) p).1 with
      | true => rfl
      | false =>
        have : pt_gs (dk_f t) (m + 1) p = (false, (pt_g (dk_f t) p).2.1, [], (pt_g (dk_f t) p).2.2.2) := by
          show (if (pt_g (dk_f t) p).1 = false then _ else _) = _
          rw [if_pos e]
        rw [this] at hok
        exact absurd (show false = true from hok) (by decide)
    have hsub : ∀ q as, (q, as) ∈ (pt_g (dk_f t) p).2.2.2 → (q, as) ∈ NN := by
      intro q as hm
      refine hNN q as ?_
      show (q, as) ∈ (if (pt_g (dk_f t) p).1 = false then _ else _ : Bool × Int × List (Int × Int × Int) × pt_N).2.2.2
      rw [if_neg (by rw [hgok]; decide)]
      split
      · exact hm
      · split
        · exact hm
        · exact List.mem_append.mpr (.inl hm)
    have hr := dk_f_r hsrc.2.2.1 (p := p)
    have hlt : p < t.length := by
      by_cases z : (t.length : Int) ≤ p
      · unfold pt_g at hgok
        have h0 := hn p z
        have e1 : (pt_t (dk_f t) 5 p).1 = false := by
          unfold pt_t
          rw [if_pos (by rw [h0]; unfold pt_ch; omega)]
        rw [if_neg (by omega), if_pos e1] at hgok
        exact absurd (show false = true from hgok) (by decide)
      · omega
    have hse : I 13 = bs + t.length := hend
    have hat := rm_at (L := L) (xs := xs) (I := I) (A := A) (d + 1) hS hsrc (p := p) (q := I 12) ⟨by omega, by omega⟩ hso
    have hng : I 28 = ng0 + gl.length := hinv.2.2.2.1.1
    have hnn : I 25 = nc := hinv.2.2.1.1
    have hnc0 := hinv.2.2.1.2
    refine ty_aload_n (pc := 5) (i := 0) (ks := []) (by decide +kernel) rfl ?_
    refine ty_getI (pc := 6) (idx := 184) (ci := 13) (f := 12) (by decide +kernel) (by first | rfl | assumption) rfl (by first | exact hS.1 _ _ rfl | assumption) (fun v hv => ?_)
    simp (decide := true) only [rm_I, rm_u, rm_w, ty_sI, ty_sR, ty_sA, ty_sQ, ty_mA, ty_mQ, ↓reduceIte, false_and, and_false, true_and, and_true, and_self] at hv
    subst hv
    refine ty_aload_n (pc := 9) (i := 0) (ks := []) (by decide +kernel) rfl ?_
    refine ty_getI (pc := 10) (idx := 181) (ci := 13) (f := 13) (by decide +kernel) (by first | rfl | assumption) rfl (by first | exact hS.1 _ _ rfl | assumption) (fun v hv => ?_)
    simp (decide := true) only [rm_I, rm_u, rm_w, ty_sI, ty_sR, ty_sA, ty_sQ, ty_mA, ty_mQ, ↓reduceIte, false_and, and_false, true_and, and_true, and_self] at hv
    subst hv
    -- at 13: .if_icmp .ge 182
    refine ty_icmp_ge (pc := 13) (off := 182) (t := 195) (ks := []) (by decide +kernel) (by omega) (by omega) (fun hc => ?_) (fun hc => ?_)
    · omega
    clear hc
    refine ty_aload_n (pc := 16) (i := 0) (ks := []) (by decide +kernel) rfl ?_
    refine ty_aload_n (pc := 17) (i := 0) (ks := []) (by decide +kernel) rfl ?_
    refine ty_getI (pc := 18) (idx := 184) (ci := 13) (f := 12) (by decide +kernel) (by first | rfl | assumption) rfl (by first | exact hS.1 _ _ rfl | assumption) (fun v hv => ?_)
    simp (decide := true) only [rm_I, rm_u, rm_w, ty_sI, ty_sR, ty_sA, ty_sQ, ty_mA, ty_mQ, ↓reduceIte, false_and, and_false, true_and, and_true, and_self] at hv
    subst hv
    -- at 21: .invokevirtual 199
    refine ty_callv (pc := 21) (idx := 199) (m := 119) (n := 2) (c := 13) (vs := [_]) (r := []) (by decide +kernel) rfl rfl (Nat.le_of_ble_eq_true rfl) (by first | rfl | assumption) (by first | exact hS.1 _ _ rfl | assumption) hat ?_
    rintro _ S1 ⟨z, rfl, rfl, rfl⟩
    refine ty_KI ?_
    refine ty_bipush (pc := 24) (n := 33) (ks := []) (by decide +kernel) (by omega) ?_
    -- at 26: .if_icmp .ne 27
    have hend40 : dk_f t (pt_g (dk_f t) p).2.1 ≠ 40 := by
      intro z
      have : pt_gs (dk_f t) (m + 1) p = (false, (pt_g (dk_f t) p).2.1, [], (pt_g (dk_f t) p).2.2.2) := by
        show (if (pt_g (dk_f t) p).1 = false then _ else _) = _
        rw [if_neg (by rw [hgok]; decide), if_neg (by omega), if_pos (by omega)]
      rw [this] at hok
      exact absurd (show false = true from hok) (by decide)
    unfold pt_g at on hgok hsub hend40
    by_cases e33 : dk_f t p = 33
    · rw [if_pos e33] at on
      refine ty_icmp_ne (pc := 26) (off := 27) (t := 53) (ks := []) (by decide +kernel) (by omega) (by omega) (fun hc => ?_) (fun hc => ?_)
      · exact absurd e33 hc
      clear hc
      refine ty_aload_n (pc := 29) (i := 0) (ks := []) (by decide +kernel) rfl ?_
      refine ty_dup (pc := 30) (ks := []) (by decide +kernel) rfl ?_
      refine ty_getI (pc := 31) (idx := 184) (ci := 13) (f := 12) (by decide +kernel) (by first | rfl | assumption) rfl (by first | exact hS.1 _ _ rfl | assumption) (fun v hv => ?_)
      simp (decide := true) only [rm_I, rm_u, rm_w, ty_sI, ty_sR, ty_sA, ty_sQ, ty_mA, ty_mQ, ↓reduceIte, false_and, and_false, true_and, and_true, and_self] at hv
      subst hv
      refine ty_iconst (pc := 34) (n := 1) (ks := []) (by decide +kernel) ?_
      refine ty_iadd (pc := 35) (ks := []) (by decide +kernel) ?_
      refine ty_putI (pc := 36) (idx := 184) (ci := 13) (f := 12) (by decide +kernel) (by first | rfl | assumption) rfl rfl (by first | exact hS.1 _ _ rfl | assumption) ?_
      rw [rm_sI]
      refine ty_aload_n (pc := 39) (i := 0) (ks := []) (by decide +kernel) rfl ?_
      refine ty_iconst (pc := 40) (n := 0) (ks := []) (by decide +kernel) ?_
      refine ty_iconst (pc := 41) (n := 0) (ks := []) (by decide +kernel) ?_
      refine ty_iconst (pc := 42) (n := 0) (ks := []) (by decide +kernel) ?_
      refine ty_iload_n (pc := 43) (i := 1) (ks := []) (by decide +kernel) rfl ?_
      refine ty_iload_n (pc := 44) (i := 2) (ks := []) (by decide +kernel) rfl ?_
      -- at 45: .invokevirtual 212
      rw [hso]
      refine ty_callv (pc := 45) (idx := 212) (m := 120) (n := 6) (c := 13) (vs := [_, _, _, _, _]) (r := []) (by decide +kernel) rfl rfl (Nat.le_of_ble_eq_true rfl) (by first | rfl | assumption) (by first | exact hS.1 _ _ rfl | assumption) (rm_goal (L := L) (xs := xs) (d + 1) hS (g := ng0 + gl.length) hng ⟨by omega, by omega⟩) ?_
      rintro _ S2 ⟨z, rfl, rfl, rfl⟩
      refine ty_KI ?_
      refine ty_istore (pc := 48) (i := 5) (ks := []) (ls' := [_, _, _, _, _, _, _, _, _]) (by decide +kernel) rfl ?_
      refine ty_goto (pc := 50) (off := 108) (t := 158) (ks := []) (by decide +kernel) ?_
      -- at 158: .aload_n 0
      have hi := bg_goal (k := 0) (x := 0) (y := 0) (b := b) (n := behind) (bg_src (v := bs + p + 1) hinv)
      refine on (p + 1) nc (33, 0, 0) [] _ _ ta _ _ _ rfl hi (fun i hi g q => rm_g1_keep q (Int.le_refl _) (fun _ _ _ => rfl) ?_ ?_ ?_ ?_) (fun i hi => ?_) (.inl ⟨rfl, ?_, ?_⟩) ?_ ?_ (by omega)
      · exact (if_neg (by simp)).trans ((if_neg (by simp)).trans ((if_neg (by simp)).trans ((if_neg (by simp)).trans (if_neg (by omega)))))
      · exact (if_neg (by simp)).trans ((if_neg (by simp)).trans ((if_neg (by simp)).trans ((if_neg (by omega)).trans (if_neg (by simp)))))
      · exact (if_neg (by simp)).trans ((if_neg (by simp)).trans ((if_neg (by omega)).trans ((if_neg (by simp)).trans (if_neg (by simp)))))
      · exact (if_neg (by simp)).trans ((if_neg (by omega)).trans ((if_neg (by simp)).trans ((if_neg (by simp)).trans (if_neg (by simp)))))
      · exact (if_neg (by omega)).trans ((if_neg (by simp)).trans ((if_neg (by simp)).trans ((if_neg (by simp)).trans (if_neg (by simp)))))
      · exact (if_neg (by simp)).trans ((if_neg (by simp)).trans ((if_neg (by simp)).trans ((if_neg (by simp)).trans (if_pos ⟨rfl, rfl⟩))))
      · exact (if_neg (by simp)).trans (if_pos ⟨rfl, rfl⟩)
      · exact if_pos ⟨rfl, rfl⟩
      · exact (if_neg (by decide)).trans ((if_pos rfl).trans (by omega))
    · rw [if_neg e33] at on hgok hsub hend40
      refine ty_icmp_ne (pc := 26) (off := 27) (t := 53) (ks := []) (by decide +kernel) (by omega) (by omega) (fun hc => ?_) (fun hc => ?_)
      rotate_left
      · exact absurd hc e33
      clear hc
      have htk : (pt_t (dk_f t) 5 p).1 = true := by
        cases e : (pt_t (dk_f t) 5 p).1 with
        | true => rfl
        | false => rw [if_pos e] at hgok; exact absurd (show false = true from hgok) (by decide)
      obtain ⟨s1, s2, s3⟩ := pt_t_spec hn 5 p (by omega) hpl
      obtain ⟨s4, s5, as, s6⟩ := s3 htk
      rw [if_neg (by rw [htk]; decide)] at hgok hsub on hend40
      have hsub1 : ∀ q as, (q, as) ∈ (pt_t (dk_f t) 5 p).2.2 → (q, as) ∈ NN := by
        intro q as hm
        refine hsub q as ?_
        split
        · exact hm
        · split
          · exact hm
          · split
            · exact hm
            · exact List.mem_append.mpr (.inl hm)
      have h40 : dk_f t (pt_t (dk_f t) 5 p).2.1 ≠ 40 := by
        intro z
        rw [if_neg (by omega), if_pos (by omega)] at hgok
        exact absurd (show false = true from hgok) (by decide)
      obtain ⟨u1, u2, -⟩ := hT p as (hsub1 _ _ s6)
      have hB := rm_build (L := L) (xs := xs) d hS (ta := ta) hw hmade hT hsrc hinv.2.1 (show 0 ≤ p by omega) hpl hso hnn (by omega) (by omega) htk hsub1 h40
      generalize pt_t (dk_f t) 5 p = T1 at s1 s2 s4 s5 s6 on hgok hsub h40 hB hend40
      obtain ⟨ok, p1, N1⟩ := T1
      simp only at s1 s2 s4 s5 s6 on hgok hsub h40 hB hend40
      clear htk s3 hsub1
      refine ty_aload_n (pc := 53) (i := 0) (ks := []) (by decide +kernel) rfl ?_
      -- at 54: .invokevirtual 216
      refine ty_callv (pc := 54) (idx := 216) (m := 121) (n := 1) (c := 13) (vs := []) (r := []) (by decide +kernel) rfl rfl (Nat.le_of_ble_eq_true rfl) (by first | rfl | assumption) (by first | exact hS.1 _ _ rfl | assumption) hB ?_
      rintro _ S2 ⟨x, rfl, I1, A1, ta1, nc1, rfl, hpost⟩
      refine ty_KI ?_
      obtain ⟨hinv1, hk1, hq1⟩ := bg_term hw hinv ⟨hn0.1, hg0.1⟩ hpost
      obtain ⟨-, -, ⟨b3, b4, b5, b6⟩, -, -, -, -, b11, b12⟩ := hpost
      have hat1 := rm_at (L := L) (xs := xs) (I := I1) (A := A1) (d + 1) hS hinv1.1 (p := p1) (q := I1 12) ⟨by omega, by omega⟩ b3
      have hng1 : I1 28 = ng0 + gl.length := hinv1.2.2.2.1.1
      have hnx1 : ∀ i, A1 70 i = A 70 i := fun i => by rw [hq1 _ (by decide) (by decide) (by decide) (by decide)]
      have hr1 := dk_f_r hsrc.2.2.1 (p := p1)
      refine ty_istore (pc := 57) (i := 6) (ks := []) (ls' := [some (.inr (.inr (some (94, 0)))), some (.inl (ty_J b)), some (.inl (ty_J behind)), some (.inl (ty_J (if gl = [] then -1 else ng0))), some (.inl (ty_J (if gl = [] then -1 else ng0 + gl.length - 1))), x5.map .inl, some (.inl (ty_J x)), x7, x8]) (by decide +kernel) (by cases x5 <;> rfl) ?_
      refine ty_aload_n (pc := 59) (i := 0) (ks := []) (by decide +kernel) rfl ?_
      refine ty_aload_n (pc := 60) (i := 0) (ks := []) (by decide +kernel) rfl ?_
      refine ty_getI (pc := 61) (idx := 184) (ci := 13) (f := 12) (by decide +kernel) (by first | rfl | assumption) rfl (by first | exact hS.1 _ _ rfl | assumption) (fun v hv => ?_)
      simp (decide := true) only [rm_I, rm_u, rm_w, ty_sI, ty_sR, ty_sA, ty_sQ, ty_mA, ty_mQ, ↓reduceIte, false_and, and_false, true_and, and_true, and_self] at hv
      subst hv
      -- at 64: .invokevirtual 199
      refine ty_callv (pc := 64) (idx := 199) (m := 119) (n := 2) (c := 13) (vs := [_]) (r := []) (by decide +kernel) rfl rfl (Nat.le_of_ble_eq_true rfl) (by first | rfl | assumption) (by first | exact hS.1 _ _ rfl | assumption) hat1 ?_
      rintro _ S3 ⟨z, rfl, rfl, rfl⟩
      refine ty_KI ?_
      by_cases ecall : (97 ≤ dk_f t p ∧ dk_f t p ≤ 122) ∧ (dk_f t p1 = 0 ∨ dk_f t p1 = 44)
      · rw [if_pos ecall] at on
        have hx0 : 0 ≤ x := rm_t_pos b11 u1 (by rw [u2]; omega)
        refine ty_istore (pc := 67) (i := 7) (ks := []) (ls' := [_, _, _, _, _, _, _, _, _]) (by decide +kernel) rfl ?_
        refine ty_iload (pc := 69) (i := 7) (ks := []) (by decide +kernel) rfl ?_
        refine ty_bipush (pc := 71) (n := 61) (ks := []) (by decide +kernel) (by omega) ?_
        -- at 73: .if_icmp .ne 7
        refine ty_icmp_ne (pc := 73) (off := 7) (t := 80) (ks := []) (by decide +kernel) (by omega) (by omega) (fun hc => ?_) (fun hc => ?_)
        rotate_left
        · omega
        refine ty_iload (pc := 80) (i := 7) (ks := []) (by decide +kernel) rfl ?_
        refine ty_bipush (pc := 82) (n := 126) (ks := []) (by decide +kernel) (by omega) ?_
        -- at 84: .if_icmp .ne 7
        refine ty_icmp_ne (pc := 84) (off := 7) (t := 91) (ks := []) (by decide +kernel) (by omega) (by omega) (fun hc => ?_) (fun hc => ?_)
        rotate_left
        · omega
        refine ty_iload (pc := 91) (i := 7) (ks := []) (by decide +kernel) rfl ?_
        refine ty_bipush (pc := 93) (n := 60) (ks := []) (by decide +kernel) (by omega) ?_
        -- at 95: .if_icmp .ne 7
        refine ty_icmp_ne (pc := 95) (off := 7) (t := 102) (ks := []) (by decide +kernel) (by omega) (by omega) (fun hc => ?_) (fun hc => ?_)
        rotate_left
        · omega
        refine ty_iload (pc := 102) (i := 7) (ks := []) (by decide +kernel) rfl ?_
        refine ty_bipush (pc := 104) (n := 63) (ks := []) (by decide +kernel) (by omega) ?_
        -- at 106: .if_icmp .ne 7
        refine ty_icmp_ne (pc := 106) (off := 7) (t := 113) (ks := []) (by decide +kernel) (by omega) (by omega) (fun hc => ?_) (fun hc => ?_)
        rotate_left
        · omega
        refine ty_iconst (pc := 113) (n := 1) (ks := []) (by decide +kernel) ?_
        refine ty_istore (pc := 114) (i := 8) (ks := []) (ls' := [_, _, _, _, _, _, _, _, _]) (by decide +kernel) rfl ?_
        refine ty_iload (pc := 116) (i := 8) (ks := []) (by decide +kernel) rfl ?_
        refine ty_iconst (pc := 118) (n := 1) (ks := []) (by decide +kernel) ?_
        -- at 119: .if_icmp .eq 13
        refine ty_icmp_eq (pc := 119) (off := 13) (t := 132) (ks := []) (by decide +kernel) (by omega) (by omega) (fun hc => ?_) (fun hc => ?_)
        rotate_left
        · omega
        refine ty_aload_n (pc := 132) (i := 0) (ks := []) (by decide +kernel) rfl ?_
        refine ty_iload (pc := 133) (i := 8) (ks := []) (by decide +kernel) rfl ?_
        refine ty_iload (pc := 135) (i := 6) (ks := []) (by decide +kernel) rfl ?_
        refine ty_iload (pc := 137) (i := 8) (ks := []) (by decide +kernel) rfl ?_
        refine ty_iconst (pc := 139) (n := 1) (ks := []) (by decide +kernel) ?_
        -- at 140: .if_icmp .ne 7
        refine ty_icmp_ne (pc := 140) (off := 7) (t := 147) (ks := []) (by decide +kernel) (by omega) (by omega) (fun hc => ?_) (fun hc => ?_)
        · omega
        refine ty_iconst (pc := 143) (n := 0) (ks := []) (by decide +kernel) ?_
        refine ty_goto (pc := 144) (off := 7) (t := 151) (ks := []) (by decide +kernel) ?_
        refine ty_iload_n (pc := 151) (i := 1) (ks := []) (by decide +kernel) rfl ?_
        refine ty_iload_n (pc := 152) (i := 2) (ks := []) (by decide +kernel) rfl ?_
        -- at 153: .invokevirtual 212
        refine ty_callv (pc := 153) (idx := 212) (m := 120) (n := 6) (c := 13) (vs := [_, _, _, _, _]) (r := []) (by decide +kernel) rfl rfl (Nat.le_of_ble_eq_true rfl) (by first | rfl | assumption) (by first | exact hS.1 _ _ rfl | assumption) (rm_goal (L := L) (xs := xs) (d + 1) hS (g := ng0 + gl.length) hng1 ⟨by omega, by omega⟩) ?_
        rintro _ S2 ⟨z, rfl, rfl, rfl⟩
        refine ty_KI ?_
        refine ty_istore (pc := 156) (i := 5) (ks := []) (ls' := [_, _, _, _, _, _, _, _, _]) (by decide +kernel) rfl ?_
        -- at 158: .aload_n 0
        obtain ⟨f1, f2, f3, f4, f5⟩ := rm_gw_g (A := A1) (g := ng0 + gl.length) (k := 1) (x := x) (y := 0) (b := b) (n := behind) rfl
        refine on p1 nc1 (40, p, p) N1 _ _ ta1 _ _ _ rfl (bg_goal hinv1) (fun i hi g q => rm_g1_keep (hk1 _ g q) (Int.le_refl _) (fun _ _ _ => rfl) (rm_gw_n (by omega)) (rm_gw_n (by omega)) (rm_gw_n (by omega)) (rm_gw_n (by omega))) (fun i hi => (rm_gw_n (by omega)).trans (hnx1 _)) (.inr (.inl ⟨rfl, f1, by rw [f2]; exact hx0, by rw [f2]; exact b11⟩)) f5 ((if_neg (by decide)).trans b3) b6
      · rw [if_neg ecall] at on hgok hsub hend40
        by_cases e3 : ¬ (dk_f t p1 = 61 ∨ dk_f t p1 = 126 ∨ dk_f t p1 = 60 ∨ dk_f t p1 = 63)
        · rw [if_pos e3] at hgok
          exact absurd (show false = true from hgok) (by decide)
        rw [if_neg e3] at on hgok hsub hend40
        have e3 := Decidable.not_not.mp e3
        by_cases e4 : dk_f t p1 = 63 ∧ ¬ (97 ≤ dk_f t (p1 + 1) ∧ dk_f t (p1 + 1) ≤ 122)
        · rw [if_pos e4] at hgok
          exact absurd (show false = true from hgok) (by decide)
        rw [if_neg e4] at on hgok hsub hend40
        -- the second term
        have second : ∀ (k : Int) (x7 : Option ai_V), (dk_f t p1 = 61 ∧ k = 2 ∨ dk_f t p1 = 126 ∧ k = 3 ∨ dk_f t p1 = 60 ∧ k = 4 ∨ dk_f t p1 = 63 ∧ k = 5) → ty_W L xs (d + 2) 118 114 [some (.inr (.inr (some (94, 0)))), some (.inl (ty_J b)), some (.inl (ty_J behind)), some (.inl (ty_J (if gl = [] then -1 else ng0))), some (.inl (ty_J (if gl = [] then -1 else ng0 + gl.length - 1))), x5.map .inl, some (.inl (ty_J x)), some (.inl (ty_J (dk_f t p1))), x8] [.inl (ty_J k)] (rm_s S I1 A1) (bg_post S G made bs t mp nc0 ng0 behind p0 I0 A0 ta0 (gl ++ (pt_gs (dk_f t) (m + 1) p).2.2.1.map (bg_f T b))) := by
          intro k x7 hk
          have hlt1 : p1 < t.length := by
            by_cases z : (t.length : Int) ≤ p1
            · have := hn p1 z
              omega
            · omega
          obtain ⟨t1, t2, t3⟩ := pt_t_spec hn 5 (p1 + 1) (by omega) (by omega)
          obtain ⟨t4, t5, as2, t6⟩ := t3 hgok
          have hinv1' := bg_src (v := bs + p1 + 1) hinv1
          obtain ⟨w1, w2, -⟩ := hT (p1 + 1) as2 (hsub _ _ (List.mem_append.mpr (.inr t6)))
          have h40' : dk_f t (pt_t (dk_f t) 5 (p1 + 1)).2.1 ≠ 40 := hend40
          have hB := rm_build (L := L) (xs := xs) d hS (ta := ta1) hw hmade hT hinv1'.1 hinv1'.2.1 (show 0 ≤ p1 + 1 by omega) (by omega) ((if_pos rfl).trans (by omega)) hinv1'.2.2.1.1 (by omega) (by omega) hgok (fun q as hm => hsub q as (List.mem_append.mpr (.inr hm))) h40'
          generalize pt_t (dk_f t) 5 (p1 + 1) = T2 at t1 t2 t4 t5 t6 on hgok hsub hB
          obtain ⟨ok2, p2, N2⟩ := T2
          simp only at t1 t2 t4 t5 t6 on hgok hsub hB
          refine ty_istore (pc := 114) (i := 8) (ks := []) (ls' := [_, _, _, _, _, _, _, _, _]) (by decide +kernel) rfl ?_
          refine ty_iload (pc := 116) (i := 8) (ks := []) (by decide +kernel) rfl ?_
          refine ty_iconst (pc := 118) (n := 1) (ks := []) (by decide +kernel) ?_
          -- at 119: .if_icmp .eq 13
          refine ty_icmp_eq (pc := 119) (off := 13) (t := 132) (ks := []) (by decide +kernel) (by omega) (by omega) (fun hc => ?_) (fun hc => ?_)
          · omega
          refine ty_aload_n (pc := 122) (i := 0) (ks := []) (by decide +kernel) rfl ?_
          refine ty_dup (pc := 123) (ks := []) (by decide +kernel) rfl ?_
          refine ty_getI (pc := 124) (idx := 184) (ci := 13) (f := 12) (by decide +kernel) (by first | rfl | assumption) rfl (by first | exact hS.1 _ _ rfl | assumption) (fun v hv => ?_)
          simp (decide := true) only [rm_I, rm_u, rm_w, ty_sI, ty_sR, ty_sA, ty_sQ, ty_mA, ty_mQ, ↓reduceIte, false_and, and_false, true_and, and_true, and_self] at hv
          subst hv
          refine ty_iconst (pc := 127) (n := 1) (ks := []) (by decide +kernel) ?_
          refine ty_iadd (pc := 128) (ks := []) (by decide +kernel) ?_
          refine ty_putI (pc := 129) (idx := 184) (ci := 13) (f := 12) (by decide +kernel) (by first | rfl | assumption) rfl rfl (by first | exact hS.1 _ _ rfl | assumption) ?_
          rw [rm_sI]
          refine ty_aload_n (pc := 132) (i := 0) (ks := []) (by decide +kernel) rfl ?_
          refine ty_iload (pc := 133) (i := 8) (ks := []) (by decide +kernel) rfl ?_
          refine ty_iload (pc := 135) (i := 6) (ks := []) (by decide +kernel) rfl ?_
          refine ty_iload (pc := 137) (i := 8) (ks := []) (by decide +kernel) rfl ?_
          refine ty_iconst (pc := 139) (n := 1) (ks := []) (by decide +kernel) ?_
          -- at 140: .if_icmp .ne 7
          rw [b3]
          refine ty_icmp_ne (pc := 140) (off := 7) (t := 147) (ks := []) (by decide +kernel) (by omega) (by omega) (fun hc => ?_) (fun hc => ?_)
          rotate_left
          · omega
          refine ty_aload_n (pc := 147) (i := 0) (ks := []) (by decide +kernel) rfl ?_
          -- at 148: .invokevirtual 216
          refine ty_callv (pc := 148) (idx := 216) (m := 121) (n := 1) (c := 13) (vs := []) (r := [_, _, _]) (by decide +kernel) rfl rfl (Nat.le_of_ble_eq_true rfl) (by first | rfl | assumption) (by first | exact hS.1 _ _ rfl | assumption) hB ?_
          rintro _ S4 ⟨y, rfl, I2, A2, ta2, nc2, rfl, hpost2⟩
          refine ty_KI ?_
          obtain ⟨hinv2, hk2, hq2⟩ := bg_term hw hinv1' ⟨hn0.1, hg0.1⟩ hpost2
          obtain ⟨-, -, ⟨c3, c4, c5, c6⟩, c7, -, -, -, c11, c12⟩ := hpost2
          have hng2 : I2 28 = ng0 + gl.length := hinv2.2.2.2.1.1
          refine ty_iload_n (pc := 151) (i := 1) (ks := []) (by decide +kernel) rfl ?_
          refine ty_iload_n (pc := 152) (i := 2) (ks := []) (by decide +kernel) rfl ?_
          -- at 153: .invokevirtual 212
          refine ty_callv (pc := 153) (idx := 212) (m := 120) (n := 6) (c := 13) (vs := [_, _, _, _, _]) (r := []) (by decide +kernel) rfl rfl (Nat.le_of_ble_eq_true rfl) (by first | rfl | assumption) (by first | exact hS.1 _ _ rfl | assumption) (rm_goal (L := L) (xs := xs) (d + 1) hS (g := ng0 + gl.length) hng2 ⟨by omega, by omega⟩) ?_
          rintro _ S5 ⟨z, rfl, rfl, rfl⟩
          refine ty_KI ?_
          refine ty_istore (pc := 156) (i := 5) (ks := []) (ls' := [_, _, _, _, _, _, _, _, _]) (by decide +kernel) rfl ?_
          -- at 158: .aload_n 0
          obtain ⟨f1, f2, f3, f4, f5⟩ := rm_gw_g (A := A2) (g := ng0 + gl.length) (k := k) (x := x) (y := y) (b := b) (n := behind) rfl
          refine on p2 nc2 (dk_f t p1, p, p1 + 1) (N1 ++ N2) _ _ ta2 _ _ _ (by rw [hgok]) (bg_goal hinv2) (fun i hi g q => rm_g1_keep (hk2 _ g (hk1 _ g q)) (Int.le_refl _) (fun _ _ _ => rfl) (rm_gw_n (by omega)) (rm_gw_n (by omega)) (rm_gw_n (by omega)) (rm_gw_n (by omega))) (fun i hi => (rm_gw_n (by omega)).trans ?_) (.inr (.inr ⟨?_, by rw [f2]; exact rm_t_up b11 c5 (fun c c0 c1 => (c7 c c0 c1).2.1), by rw [f3]; exact c11⟩)) f5 ((if_neg (by decide)).trans c3) (by omega)
          · rw [hq2 _ (by decide) (by decide) (by decide) (by decide)]
            exact hnx1 _
          · rw [f1, f3]
            show dk_f t p1 = 61 ∧ k = 2 ∨ dk_f t p1 = 126 ∧ k = 3 ∨ dk_f t p1 = 60 ∧ k = 4 ∨ dk_f t p1 = 63 ∧ k = 5 ∧ 0 ≤ y
            rcases hk with z | z | z | z
            · exact .inl z
            · exact .inr (.inl z)
            · exact .inr (.inr (.inl z))
            · exact .inr (.inr (.inr ⟨z.1, z.2, rm_t_pos c11 w1 (by rw [w2]; omega)⟩))
        refine ty_istore (pc := 67) (i := 7) (ks := []) (ls' := [_, _, _, _, _, _, _, _, _]) (by decide +kernel) rfl ?_
        refine ty_iload (pc := 69) (i := 7) (ks := []) (by decide +kernel) rfl ?_
        refine ty_bipush (pc := 71) (n := 61) (ks := []) (by decide +kernel) (by omega) ?_
        -- at 73: .if_icmp .ne 7
        refine ty_icmp_ne (pc := 73) (off := 7) (t := 80) (ks := []) (by decide +kernel) (by omega) (by omega) (fun hc => ?_) (fun hc => ?_)
        rotate_left
        · refine ty_iconst (pc := 76) (n := 2) (ks := []) (by decide +kernel) ?_
          refine ty_goto (pc := 77) (off := 37) (t := 114) (ks := []) (by decide +kernel) ?_
          -- at 114: .istore 8
          exact second 2 x7 (by omega)
        refine ty_iload (pc := 80) (i := 7) (ks := []) (by decide +kernel) rfl ?_
        refine ty_bipush (pc := 82) (n := 126) (ks := []) (by decide +kernel) (by omega) ?_
        -- at 84: .if_icmp .ne 7
        refine ty_icmp_ne (pc := 84) (off := 7) (t := 91) (ks := []) (by decide +kernel) (by omega) (by omega) (fun hc => ?_) (fun hc => ?_)
        rotate_left
        · refine ty_iconst (pc := 87) (n := 3) (ks := []) (by decide +kernel) ?_
          refine ty_goto (pc := 88) (off := 26) (t := 114) (ks := []) (by decide +kernel) ?_
          -- at 114: .istore 8
          exact second 3 x7 (by omega)
        refine ty_iload (pc := 91) (i := 7) (ks := []) (by decide +kernel) rfl ?_
        refine ty_bipush (pc := 93) (n := 60) (ks := []) (by decide +kernel) (by omega) ?_
        -- at 95: .if_icmp .ne 7
        refine ty_icmp_ne (pc := 95) (off := 7) (t := 102) (ks := []) (by decide +kernel) (by omega) (by omega) (fun hc => ?_) (fun hc => ?_)
        rotate_left
        · refine ty_iconst (pc := 98) (n := 4) (ks := []) (by decide +kernel) ?_
          refine ty_goto (pc := 99) (off := 15) (t := 114) (ks := []) (by decide +kernel) ?_
          -- at 114: .istore 8
          exact second 4 x7 (by omega)
        refine ty_iload (pc := 102) (i := 7) (ks := []) (by decide +kernel) rfl ?_
        refine ty_bipush (pc := 104) (n := 63) (ks := []) (by decide +kernel) (by omega) ?_
        -- at 106: .if_icmp .ne 7
        refine ty_icmp_ne (pc := 106) (off := 7) (t := 113) (ks := []) (by decide +kernel) (by omega) (by omega) (fun hc => ?_) (fun hc => ?_)
        rotate_left
        · refine ty_iconst (pc := 109) (n := 5) (ks := []) (by decide +kernel) ?_
          refine ty_goto (pc := 110) (off := 4) (t := 114) (ks := []) (by decide +kernel) ?_
          -- at 114: .istore 8
          exact second 5 x7 (by omega)
        omega
theorem rm_bg (d : Nat) (hS : ty_st S) {G : mo_G} {made bs : Int} {T : Int → Int} {t : List Int} {mp : Int → Int} {NN : pt_N} (hw : mo_wf G) (hmade : made ≤ 100000) (hT : bt_T G made T (dk_f t) mp NN) {nc ng p b behind : Int} {I : Nat → Int} {A : Nat → Int → Int} {ta : Int → Int} (hn0 : 0 ≤ nc ∧ nc + 100 ≤ 24000) (hg0 : 0 ≤ ng ∧ ng + 60 ≤ 14000) (hsrc : rm_src I A bs t) (hmp : ∀ u, 0 ≤ u → u < 26 → A 58 u = mp u) (hce : I 25 = nc) (hng : I 28 = ng) (hso : I 12 = bs + p) (hp : 0 ≤ p ∧ p ≤ t.length) (hok : (pt_gs (dk_f t) 24 p).1 = true) (hNN : ∀ q as, (q, as) ∈ (pt_gs (dk_f t) 24 p).2.2.2 → (q, as) ∈ NN) :
    ty_C L xs (d + 3) 118 [.inr (.inr (some (94, 0))), .inl (ty_J b), .inl (ty_J behind)] (rm_s S I A) (bg_post S G made bs t mp nc ng behind p I A ta ((pt_gs (dk_f t) 24 p).2.2.1.map (bg_f T b))) := by
  have := bg_loop (L := L) (xs := xs) d hS hw hmade hT (b := b) (behind := behind) (I0 := I) (A0 := A) (ta0 := ta) hn0 hg0 hp.1 24 p nc [] I A ta none none none none ⟨hsrc, hmp, ⟨hce, Int.le_refl _⟩, ⟨by simp only [List.length_nil]; omega, by simp⟩, fun _ _ _ _ => rfl, fun _ _ _ _ _ _ _ _ _ _ => rfl, fun _ _ _ => ⟨rfl, rfl, rfl⟩, fun _ _ _ => rfl, fun _ _ _ => ⟨rfl, rfl, rfl, rfl, rfl⟩, fun c c0 c1 => by omega⟩ (fun i g hi => by simp at hi) hso (Int.le_refl _) hp.2 (by omega) (by simp) hok hNN
  rw [if_pos rfl, if_pos rfl, List.nil_append] at this
  refine ty_enter (ml := 9) (ls := [_, _, _, _, _, _, _, _, _]) rfl rfl (Nat.le_of_ble_eq_true rfl) ?_
  refine ty_iconst (pc := 0) (n := (-1)) (ks := []) (by decide +kernel) ?_
  refine ty_istore_n (pc := 1) (i := 3) (ks := []) (ls' := [_, _, _, _, _, _, _, _, _]) (by decide +kernel) rfl ?_
  refine ty_iconst (pc := 2) (n := (-1)) (ks := []) (by decide +kernel) ?_
  refine ty_istore (pc := 3) (i := 4) (ks := []) (ls' := [_, _, _, _, _, _, _, _, _]) (by decide +kernel) rfl ?_
  -- at 5: .aload_n 0
  exact this
end RMBG
