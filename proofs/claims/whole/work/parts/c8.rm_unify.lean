/-! The reference unifies. -/
/-- same, then what must stay different: code, steps, bd, ch, who woke, who waits -/
def mo_fi (G : mo_G) (st : Int) (ps : List (Int × Int)) (bd : Int → Int) (ch : Int → List Int) (al ar : Int → Int) (an : Int) (aw : Int → Bool) : Int × Int × (Int → Int) × (Int → List Int) × List Int × (Int → Bool) :=
  if (mo_ur G false st (ps, bd, ch, [], false)).1 = 1 then
    ((mo_hold G (mo_ur G false st (ps, bd, ch, [], false)).2.2.1 (mo_ur G false st (ps, bd, ch, [], false)).2.2.2.1 (mo_ur G false st (ps, bd, ch, [], false)).2.2.2.2.1 al ar (if (mo_ur G false st (ps, bd, ch, [], false)).2.2.2.2.2 = true then an.toNat else 0) (mo_ur G false st (ps, bd, ch, [], false)).2.1 0 aw).1,
     (mo_hold G (mo_ur G false st (ps, bd, ch, [], false)).2.2.1 (mo_ur G false st (ps, bd, ch, [], false)).2.2.2.1 (mo_ur G false st (ps, bd, ch, [], false)).2.2.2.2.1 al ar (if (mo_ur G false st (ps, bd, ch, [], false)).2.2.2.2.2 = true then an.toNat else 0) (mo_ur G false st (ps, bd, ch, [], false)).2.1 0 aw).2.1,
     (mo_ur G false st (ps, bd, ch, [], false)).2.2.1, (mo_ur G false st (ps, bd, ch, [], false)).2.2.2.1, (mo_ur G false st (ps, bd, ch, [], false)).2.2.2.2.1,
     (mo_hold G (mo_ur G false st (ps, bd, ch, [], false)).2.2.1 (mo_ur G false st (ps, bd, ch, [], false)).2.2.2.1 (mo_ur G false st (ps, bd, ch, [], false)).2.2.2.2.1 al ar (if (mo_ur G false st (ps, bd, ch, [], false)).2.2.2.2.2 = true then an.toNat else 0) (mo_ur G false st (ps, bd, ch, [], false)).2.1 0 aw).2.2)
  else ((mo_ur G false st (ps, bd, ch, [], false)).1, (mo_ur G false st (ps, bd, ch, [], false)).2.1, (mo_ur G false st (ps, bd, ch, [], false)).2.2.1, (mo_ur G false st (ps, bd, ch, [], false)).2.2.2.1, (mo_ur G false st (ps, bd, ch, [], false)).2.2.2.2.1, aw)
theorem mo_fin_fi {P : mo_P} {st came : Int} {sl al ar : Int → Int} {made : Int} {bd : Int → Int} {ch : Int → List Int} {ns : Int} {dn : List Int} {an : Int} {aw : Int → Bool} {todo : List mo_Go} {cs : List mo_Ch} {ans : Int} {ps : List (Int × Int)} {body : List mo_Go} : mo_fin P (st, came, sl, al, ar, (made, bd, ch, ns, dn, an, aw), todo, cs, ans) ps body an =
    ((mo_fi P.1 st ps bd ch al ar an aw).1, ((mo_fi P.1 st ps bd ch al ar an aw).2.1, came, sl, al, ar, (made, (mo_fi P.1 st ps bd ch al ar an aw).2.2.1, (mo_fi P.1 st ps bd ch al ar an aw).2.2.2.1, ns, dn ++ (mo_fi P.1 st ps bd ch al ar an aw).2.2.2.2.1, an, (mo_fi P.1 st ps bd ch al ar an aw).2.2.2.2.2), if (mo_fi P.1 st ps bd ch al ar an aw).1 = 1 then mo_wg sl (mo_fi P.1 st ps bd ch al ar an aw).2.2.2.2.1 ++ body ++ todo else todo, cs, ans)) := by
  unfold mo_fin mo_fi
  dsimp only
  generalize mo_ur P.1 false st (ps, bd, ch, [], false) = u
  obtain ⟨c, st1, bd1, ch1, wk, fl⟩ := u
  dsimp only
  by_cases e : c = 1
  · rw [if_pos e, if_pos e]
    cases fl with
    | true =>
      simp only [if_pos]
      rw [show an - 0 = an by omega]
    | false =>
      have e1 : (an - (if (false : Bool) = true then 0 else an)).toNat = 0 := by
        rw [if_neg (by decide)]
        omega
      rw [e1, if_neg (by decide)]
      rfl
  · rw [if_neg e, if_neg e]
    simp only [if_neg e]
section RUN
variable {L : Nat} {xs : Nat → Int32} {S : ty_S} {G : mo_G} {ta : Int → Int} {nc made ns : Int}
def rn_f (ng : Int) (I : Nat → Int) (A : Nat → Int → Int) (I' : Nat → Int) (A' : Nat → Int → Int) : Prop := (∀ k, k ≠ 30 → k ≠ 11 → k ≠ 32 → k ≠ 36 → k ≠ 39 → k ≠ 37 → k ≠ 28 → k ≠ 29 → I' k = I k) ∧ (∀ q, q ≠ 71 → q ≠ 72 → q ≠ 63 → q ≠ 64 → q ≠ 65 → q ≠ 74 → q ≠ 78 → q ≠ 79 → q ≠ 80 → q ≠ 77 → q ≠ 81 → q ≠ 66 → q ≠ 67 → q ≠ 68 → q ≠ 69 → q ≠ 70 → A' q = A q) ∧ (∀ g, 0 ≤ g → g < ng → A' 66 g = A 66 g ∧ A' 67 g = A 67 g ∧ A' 68 g = A 68 g ∧ A' 69 g = A 69 g ∧ A' 70 g = A 70 g) ∧ rt_ud A (I 32) A' (I' 32)
def rn_p (S : ty_S) (I : Nat → Int) (A : Nat → Int → Int) (G : mo_G) (ta : Int → Int) (nc made ns : Int) (sl al ar rl : Int → Int) (na an ng : Int) (tdl : List mo_Go) (q : Int × Int × (Int → Int) × (Int → List Int) × List Int × (Int → Bool)) : ai_O → ty_S → Prop := ty_oI fun z S' => z = (if q.1 = 1 then 1 else 0) ∧ ∃ I' A', S' = rm_s S I' A' ∧ rh_R I' A' G ta nc made ns q.2.1 (if q.1 = 2 then 3 else 0) q.2.2.1 q.2.2.2.1 ∧ rx_A G ta nc A' (A' 77) al ar rl na an q.2.2.2.2.2 ∧ rn_f ng I A I' A' ∧ (q.1 = 1 → I' 28 = ng + q.2.2.2.2.1.length ∧ rm_td G ta nc A' (ng + q.2.2.2.2.1.length) (I' 29) (mo_wg sl q.2.2.2.2.1 ++ tdl)) ∧ (q.1 ≠ 1 → I' 28 = ng)
theorem rm_unify (d : Nat) (hS : ty_st S) (hw : mo_wf G) (hmade : made ≤ 13000) {dn : List Int} {st : Int} {I : Nat → Int} {A : Nat → Int → Int} {ps : List (Int × Int)} {bd : Int → Int} {ch : Int → List Int} {sl al ar rl : Int → Int} {na an ng : Int} {aw : Int → Bool} {behind : Int} {tdl : List mo_Go} (hR : rs_R (rm_u (rm_u I 39 0) 37 0) A G ta nc made ns false st 0 (ps, bd, ch, [], false)) (hlen : ps.length ≤ 3) (hpo : mo_po G made ps) (hbw : mo_bw G made bd) (hcw : mo_cw made ns bd ch dn)
    (hsl : ∀ e, 0 ≤ e → e < ns → 0 ≤ A 73 e ∧ rm_t G ta nc (A 73 e) (sl e)) (hA : rx_A G ta nc A (A 77) al ar rl na an aw) (hI : I 35 = na) (han : an ≤ 500) (hok : ∀ i, 0 ≤ i → i < an → mo_ok G made (al i) ∧ mo_ok G made (ar i)) (hng : I 28 = ng) (hngr : 0 ≤ ng ∧ ng + 600 ≤ 14000) (htd : rm_td G ta nc A ng behind tdl) :
    ty_C L xs (d + 6) 131 [.inr (.inr (some (94, 0))), .inl (ty_J behind)] (rm_s S I A) (rn_p S I A G ta nc made ns sl al ar rl na an ng tdl (mo_fi G st ps bd ch al ar an aw)) := by
  have hcw0 : mo_cw made ns bd ch (dn ++ []) := by rw [List.append_nil]; exact hcw
  have hst := hR.1.2
  have hns : 0 ≤ ns ∧ ns ≤ 500 := hR.2.2.2.2.2.2.2.2.2.2.2
  have hinv := mo_un_inv hw (made := made) (ns := ns) (by omega) (tr := false) (dn := dn) (501 - st).toNat st ps bd ch [] false (by omega) hst.2 hpo hbw hcw0
  have hsame := rm_same (L := L) (xs := xs) (d + 1) hS hw hmade (dn := dn) hR hlen hpo hbw hcw0
  have hur : mo_un G false (501 - st).toNat st (ps, bd, ch, [], false) = mo_ur G false st (ps, bd, ch, [], false) := rfl
  rw [hur] at hinv
  unfold mo_fi
  generalize mo_ur G false st (ps, bd, ch, [], false) = u at hinv hsame ⊢
  clear hur
  obtain ⟨uc, ust, ubd, uch, wk, ufl⟩ := u
  simp only at hinv hsame ⊢
  obtain ⟨i1, i2, i3, i4, -⟩ := hinv
  have hwl : (dn ++ wk).length ≤ 500 := by
    have := mo_count ns.toNat (dn ++ wk) i4.2.2.1 (fun e he => by have := i4.2.2.2 e he; omega)
    omega
  rw [List.length_append] at hwl
  have hwr : ∀ e ∈ wk, 0 ≤ e ∧ e < ns := fun e he => i4.2.2.2 e (List.mem_append.mpr (.inr he))
  refine ty_enter (ml := 5) (ls := [_, _, _, _, _]) rfl rfl (Nat.le_of_ble_eq_true rfl) ?_
  refine ty_aload_n (pc := 0) (i := 0) (ks := []) (by decide +kernel) rfl ?_
  -- at 1: .invokevirtual 256
  refine ty_callv (pc := 1) (idx := 256) (m := 132) (n := 1) (c := 13) (vs := []) (r := []) (by decide +kernel) rfl rfl (Nat.le_of_ble_eq_true rfl) (by first | rfl | assumption) (by first | exact hS.1 _ _ rfl | assumption) hsame ?_
  rintro _ S1 ⟨z, rfl, hz, I1, A1, ps1, rfl, hR1, hf1⟩
  refine ty_KI ?_
  have hRh := hR1.toH
  simp only at hRh hz
  -- what same leaves alone
  have fA : ∀ q, q ≠ 71 → q ≠ 72 → q ≠ 63 → q ≠ 64 → q ≠ 65 → q ≠ 74 → q ≠ 78 → q ≠ 79 → q ≠ 80 → A1 q = A q := hf1.2.1
  have hA1 : rx_A G ta nc A1 (A1 77) al ar rl na an aw := by
    unfold rx_A
    rw [fA 77 (by decide) (by decide) (by decide) (by decide) (by decide) (by decide) (by decide) (by decide) (by decide), fA 75 (by decide) (by decide) (by decide) (by decide) (by decide) (by decide) (by decide) (by decide) (by decide), fA 76 (by decide) (by decide) (by decide) (by decide) (by decide) (by decide) (by decide) (by decide) (by decide)]
    exact hA
  have hI1 : I1 35 = na := (hf1.1 _ (by decide) (by decide) (by decide) (by decide) (by decide) (by decide)).trans hI
  have hn1 : rn_f ng I A I1 A1 := by
    refine ⟨fun k h1 h2 h3 h4 h5 h6 _ _ => hf1.1 k h1 h2 h3 h4 h5 h6, fun q h1 h2 h3 h4 h5 h6 h7 h8 h9 _ _ _ _ _ _ _ => hf1.2.1 q h1 h2 h3 h4 h5 h6 h7 h8 h9, fun g _ _ => ?_, hf1.2.2.2⟩
    rw [fA 66 (by decide) (by decide) (by decide) (by decide) (by decide) (by decide) (by decide) (by decide) (by decide), fA 67 (by decide) (by decide) (by decide) (by decide) (by decide) (by decide) (by decide) (by decide) (by decide), fA 68 (by decide) (by decide) (by decide) (by decide) (by decide) (by decide) (by decide) (by decide) (by decide), fA 69 (by decide) (by decide) (by decide) (by decide) (by decide) (by decide) (by decide) (by decide) (by decide), fA 70 (by decide) (by decide) (by decide) (by decide) (by decide) (by decide) (by decide) (by decide) (by decide)]
    exact ⟨rfl, rfl, rfl, rfl, rfl⟩
  have hg1 : I1 28 = ng := (hf1.1 _ (by decide) (by decide) (by decide) (by decide) (by decide) (by decide)).trans hng
  by_cases c1 : uc = 1
  · rw [if_pos c1] at hz
    rw [if_pos c1]
    rw [if_neg (by omega)] at hRh hR1
    subst hz
    refine ty_if_ne (pc := 4) (off := 5) (t := 9) (ks := []) (by decide +kernel) (by omega) (fun hc => ?_) (fun hc => ?_)
    rotate_left
    · exact absurd hc (by decide)
    clear hc
    have hw1 := hR1.2.2.2.2.2.1
    obtain ⟨Ls, l1, l2, l3⟩ := hw1.2 rfl
    have hwc := hw1.1
    simp only at l1 l2 l3 hwc
    refine ty_iconst (pc := 9) (n := 0) (ks := []) (by decide +kernel) ?_
    refine ty_istore_n (pc := 10) (i := 2) (ks := []) (ls' := [_, _, _, _, _]) (by decide +kernel) rfl ?_
    refine ty_iconst (pc := 11) (n := 0) (ks := []) (by decide +kernel) ?_
    refine ty_istore_n (pc := 12) (i := 3) (ks := []) (ls' := [_, _, _, _, _]) (by decide +kernel) rfl ?_
    -- at 13: .iload_n 3
    have hself : rm_a A1 81 (A1 81) = A1 := rm_a_self
    rw [← hself]
    refine ru_outer (d + 5) hS (wk := wk) (N := Ls.length) l1 (by omega) (by omega) (fun e he => by have := hwr e he; omega) Ls 0 0 (A1 81) [] none (by omega) rfl l2 (fun j l hj => by rw [Nat.zero_add]; exact l3 j l hj) trivial (fun O x3 x4 hO => ?_)
    have hbo : I1 39 = if ufl = true then 1 else 0 := hR1.2.2.2.2.1.1
    -- with order in its row
    generalize hA2 : rm_a A1 81 O = A2
    have aO : ∀ q, q ≠ 81 → A2 q = A1 q := fun q hq => by rw [← hA2]; exact if_neg hq
    have aOr : A2 81 = O := by rw [← hA2]; exact if_pos rfl
    clear hA2
    have hud2 : rt_ud A1 (I1 32) A2 (I1 32) := rt_ud_e (rr_e (aO _ (by decide)) (aO _ (by decide)) (aO _ (by decide)) (aO _ (by decide)) (aO _ (by decide))) (aO _ (by decide)) (aO _ (by decide))
    have hn2 : rn_f ng I A I1 A2 := by
      obtain ⟨n1, n2, n3, n4⟩ := hn1
      refine ⟨n1, fun q h1 h2 h3 h4 h5 h6 h7 h8 h9 h10 h11 h12 h13 h14 h15 h16 => (aO q h11).trans (n2 q h1 h2 h3 h4 h5 h6 h7 h8 h9 h10 h11 h12 h13 h14 h15 h16), fun g g0 g1 => ?_, n4.trans hud2⟩
      rw [aO _ (by decide), aO _ (by decide), aO _ (by decide), aO _ (by decide), aO _ (by decide)]
      exact n3 g g0 g1
    have hRh2 : rh_R I1 A2 G ta nc made ns ust 0 ubd uch := by
      obtain ⟨b1, b2, b3, b4, b5, b6, b7, b8⟩ := hRh
      refine ⟨b1, b2, ?_, b4, ?_, ?_, fun c c0 c1' => rm_cell_e (b7 c c0 c1') (aO _ (by decide)) (aO _ (by decide)) (aO _ (by decide)), b8⟩
      · rw [aO _ (by decide)]; exact b3
      · rw [aO _ (by decide)]; exact b5
      · rw [aO 64 (by decide), aO 65 (by decide), aO 74 (by decide)]; exact b6
    have hA2' : rx_A G ta nc A2 (A2 77) al ar rl na an aw := by
      unfold rx_A
      rw [aO 77 (by decide), aO 75 (by decide), aO 76 (by decide)]
      exact hA1
    -- the end, once all holds
    have fin : ∀ (I3 : Nat → Int) (A3 : Nat → Int → Int) (st3 : Int) (aw3 : Int → Bool) (x3 : Int32) (x4 : Option Int32), rh_R I3 A3 G ta nc made ns st3 0 ubd uch → rx_A G ta nc A3 (A3 77) al ar rl na an aw3 → rh_f I1 A2 I3 A3 → ty_W L xs (d + 5) 131 156 [some (.inr (.inr (some (94, 0)))), some (.inl (ty_J behind)), some (.inl (ty_J wk.length)), some (.inl x3), x4.map .inl] [] (rm_s S I3 A3) (rn_p S I A G ta nc made ns sl al ar rl na an ng tdl (1, st3, ubd, uch, wk, aw3)) := by
      intro I3 A3 st3 aw3 x3 x4 hR3 hA3 hf3
      have g3 : ∀ q, q ≠ 71 → q ≠ 72 → q ≠ 78 → q ≠ 79 → q ≠ 77 → A3 q = A2 q := hf3.2.1
      have eg : ∀ q, q = 66 ∨ q = 67 ∨ q = 68 ∨ q = 69 ∨ q = 70 ∨ q = 73 → A3 q = A q := by
        rintro q (rfl | rfl | rfl | rfl | rfl | rfl) <;> exact (g3 _ (by decide) (by decide) (by decide) (by decide) (by decide)).trans ((aO _ (by decide)).trans (fA _ (by decide) (by decide) (by decide) (by decide) (by decide) (by decide) (by decide) (by decide) (by decide)))
      have hn3 : rn_f ng I A I3 A3 := by
        obtain ⟨n1, n2, n3, n4⟩ := hn2
        refine ⟨fun k h1 h2 h3 h4 h5 h6 h7 h8 => (hf3.1 k h1 h2 h3 h4 h5 h6).trans (n1 k h1 h2 h3 h4 h5 h6 h7 h8), fun q h1 h2 h3 h4 h5 h6 h7 h8 h9 h10 h11 h12 h13 h14 h15 h16 => (g3 q h1 h2 h7 h8 h10).trans (n2 q h1 h2 h3 h4 h5 h6 h7 h8 h9 h10 h11 h12 h13 h14 h15 h16), fun g _ _ => ?_, n4.trans hf3.2.2⟩
        rw [eg _ (by simp), eg _ (by simp), eg _ (by simp), eg _ (by simp), eg _ (by simp)]
        exact ⟨rfl, rfl, rfl, rfl, rfl⟩
      have hg3 : I3 28 = ng := (hf3.1 _ (by decide) (by decide) (by decide) (by decide) (by decide) (by decide)).trans hg1
      have htd3 : rm_td G ta nc A3 ng behind tdl := rm_td_keep (Int.le_refl _) (Int.le_refl _) (fun _ _ _ => rfl) (fun g _ _ => by
        rw [eg _ (by simp), eg _ (by simp), eg _ (by simp), eg _ (by simp), eg _ (by simp)]
        exact ⟨rfl, rfl, rfl, rfl, rfl⟩) _ _ htd
      refine ty_iload_n (pc := 156) (i := 1) (ks := []) (by decide +kernel) rfl ?_
      refine ty_istore_n (pc := 157) (i := 3) (ks := []) (ls' := [_, _, _, _, _]) (by decide +kernel) rfl ?_
      refine ty_iload_n (pc := 158) (i := 2) (ks := []) (by decide +kernel) rfl ?_
      refine ty_iconst (pc := 159) (n := 1) (ks := []) (by decide +kernel) ?_
      refine ty_isub (pc := 160) (ks := []) (by decide +kernel) ?_
      refine ty_istore (pc := 161) (i := 4) (ks := []) (ls' := [_, _, _, _, _]) (by decide +kernel) rfl ?_
      -- at 163: .iload 4
      refine ru_goals (d + 4) hS (sl := sl) (A0 := A3) (ng := ng) (wk := wk) (tdl := tdl) hngr (by omega) (fun e he => ?_) ?_ wk.length wk [] I3 A3 behind rfl (List.append_nil _) (by simp only [List.length_nil]; omega) (fun _ _ _ _ _ _ => rfl) (fun _ _ _ => ⟨rfl, rfl, rfl, rfl, rfl⟩) (by simp only [List.length_nil, mo_wg, List.map_nil, List.nil_append]; rw [show ng + ((0 : Nat) : Int) = ng by omega]; exact htd3) (fun I4 A4 to k1 k2 k3 k4 k5 => ?_)
      · have := hwr e he
        rw [eg _ (by simp)]
        exact hsl e (by omega) (by omega)
      · rw [g3 81 (by decide) (by decide) (by decide) (by decide) (by decide), aOr, eg _ (by simp)]
        rw [fA 73 (by decide) (by decide) (by decide) (by decide) (by decide) (by decide) (by decide) (by decide) (by decide)] at hO
        exact hO
      · refine ⟨1, rfl, rfl, _, A4, rfl, ?_, ?_, ?_, fun _ => ⟨k2, k5⟩, fun w => absurd rfl w⟩
        · obtain ⟨b1, b2, b3, b4, b5, b6, b7, b8⟩ := hR3
          have ki : ∀ k, k ≠ 28 → k ≠ 29 → (rm_u I4 29 to) k = I3 k := fun k h1 h2 => (if_neg h2).trans (k1 k h1)
          have ka : ∀ q, q ≠ 66 → q ≠ 67 → q ≠ 68 → q ≠ 69 → q ≠ 70 → A4 q = A3 q := k3
          refine ⟨⟨(ki _ (by decide) (by decide)).trans b1.1, b1.2⟩, (ki _ (by decide) (by decide)).trans b2, ?_, (ki _ (by decide) (by decide)).trans b4, ?_, ?_, fun c c0 c1' => rm_cell_e (b7 c c0 c1') (ka _ (by decide) (by decide) (by decide) (by decide) (by decide)) (ka _ (by decide) (by decide) (by decide) (by decide) (by decide)) (ka _ (by decide) (by decide) (by decide) (by decide) (by decide)), b8⟩
          · rw [ki _ (by decide) (by decide), ka _ (by decide) (by decide) (by decide) (by decide) (by decide)]
            exact b3
          · rw [ka _ (by decide) (by decide) (by decide) (by decide) (by decide)]
            exact b5
          · rw [ka 64 (by decide) (by decide) (by decide) (by decide) (by decide), ka 65 (by decide) (by decide) (by decide) (by decide) (by decide), ka 74 (by decide) (by decide) (by decide) (by decide) (by decide)]
            exact b6
        · unfold rx_A
          rw [k3 77 (by decide) (by decide) (by decide) (by decide) (by decide), k3 75 (by decide) (by decide) (by decide) (by decide) (by decide), k3 76 (by decide) (by decide) (by decide) (by decide) (by decide)]
          exact hA3
        · obtain ⟨n1, n2, n3, n4⟩ := hn3
          refine ⟨fun k h1 h2 h3 h4 h5 h6 h7 h8 => (if_neg h8).trans ((k1 k h7).trans (n1 k h1 h2 h3 h4 h5 h6 h7 h8)), fun q h1 h2 h3 h4 h5 h6 h7 h8 h9 h10 h11 h12 h13 h14 h15 h16 => (k3 q h12 h13 h14 h15 h16).trans (n2 q h1 h2 h3 h4 h5 h6 h7 h8 h9 h10 h11 h12 h13 h14 h15 h16), fun g g0 g1 => ?_, ?_⟩
          · obtain ⟨q1, q2, q3, q4, q5⟩ := k4 g g0 g1
            obtain ⟨p1, p2, p3, p4, p5⟩ := n3 g g0 g1
            exact ⟨q1.trans p1, q2.trans p2, q3.trans p3, q4.trans p4, q5.trans p5⟩
          · have et : (rm_u I4 29 to) 32 = I3 32 := k1 _ (by decide)
            rw [et]
            have e := fun q h1 h2 h3 h4 h5 => k3 q h1 h2 h3 h4 h5
            exact n4.trans (rt_ud_e (rr_e (e _ (by decide) (by decide) (by decide) (by decide) (by decide)) (e _ (by decide) (by decide) (by decide) (by decide) (by decide)) (e _ (by decide) (by decide) (by decide) (by decide) (by decide)) (e _ (by decide) (by decide) (by decide) (by decide) (by decide)) (e _ (by decide) (by decide) (by decide) (by decide) (by decide))) (e _ (by decide) (by decide) (by decide) (by decide) (by decide)) (e _ (by decide) (by decide) (by decide) (by decide) (by decide)))
    refine ty_aload_n (pc := 68) (i := 0) (ks := []) (by decide +kernel) rfl ?_
    refine ty_getI (pc := 69) (idx := 228) (ci := 13) (f := 39) (by decide +kernel) (by first | rfl | assumption) rfl (by first | exact hS.1 _ _ rfl | assumption) (fun v hv => ?_)
    simp (decide := true) only [rm_I, rm_u, rm_w, ty_sI, ty_sR, ty_sA, ty_sQ, ty_mA, ty_mQ, ↓reduceIte, false_and, and_false, true_and, and_true, and_self] at hv
    subst hv
    -- at 72: .ifCond .eq 84
    by_cases cf : ufl = true
    · rw [if_pos cf] at hbo
      rw [if_pos cf]
      rw [hbo]
      refine ty_if_eq (pc := 72) (off := 84) (t := 156) (ks := []) (by decide +kernel) (by omega) (fun hc => ?_) (fun hc => ?_)
      · exact absurd hc (by decide)
      clear hc
      refine ty_iconst (pc := 75) (n := 0) (ks := []) (by decide +kernel) ?_
      refine ty_istore_n (pc := 76) (i := 3) (ks := []) (ls' := [_, _, _, _, _]) (by decide +kernel) rfl ?_
      -- at 77: .iload_n 3
      have hna := hA.1
      have key := ru_hold (L := L) (xs := xs) (S := S) d hS hw hmade (wk := wk) (dn := dn) i3 i4 (al := al) (ar := ar) (rl := rl) (na := na) han hok (HR := mo_hold G ubd uch wk al ar an.toNat ust 0 aw) (b := ty_J behind) (n := ty_J wk.length) (Q := rn_p S I A G ta nc made ns sl al ar rl na an ng tdl ((mo_hold G ubd uch wk al ar an.toNat ust 0 aw).1, (mo_hold G ubd uch wk al ar an.toNat ust 0 aw).2.1, ubd, uch, wk, (mo_hold G ubd uch wk al ar an.toNat ust 0 aw).2.2)) na.toNat 0 ust I1 A2 aw x4 (by omega) (Int.le_refl _) hRh2 hA2' hI1 (by
        have e0 : ru_pos rl 0 = 0 := if_pos rfl
        rw [e0, show an - 0 = an by omega]) (fun I3 A3 x3 x4 q1 q2 q3 q4 => by
          rw [q1]
          exact fin I3 A3 _ _ x3 x4 q2 q3 q4) (fun I3 A3 q1 q2 q3 q4 => by
          refine ⟨0, rfl, by rw [if_neg q1], I3, A3, rfl, q2, q3, ?_, fun w => absurd w q1, fun _ => (q4.1 _ (by decide) (by decide) (by decide) (by decide) (by decide) (by decide)).trans hg1⟩
          obtain ⟨n1, n2, n3, n4⟩ := hn2
          refine ⟨fun k h1 h2 h3 h4 h5 h6 h7 h8 => (q4.1 k h1 h2 h3 h4 h5 h6).trans (n1 k h1 h2 h3 h4 h5 h6 h7 h8), fun q h1 h2 h3 h4 h5 h6 h7 h8 h9 h10 h11 h12 h13 h14 h15 h16 => (q4.2.1 q h1 h2 h7 h8 h10).trans (n2 q h1 h2 h3 h4 h5 h6 h7 h8 h9 h10 h11 h12 h13 h14 h15 h16), fun g g0 g1 => ?_, n4.trans q4.2.2⟩
          rw [q4.2.1 _ (by decide) (by decide) (by decide) (by decide) (by decide), q4.2.1 _ (by decide) (by decide) (by decide) (by decide) (by decide), q4.2.1 _ (by decide) (by decide) (by decide) (by decide) (by decide), q4.2.1 _ (by decide) (by decide) (by decide) (by decide) (by decide), q4.2.1 _ (by decide) (by decide) (by decide) (by decide) (by decide)]
          exact n3 g g0 g1)
      exact key
    · rw [if_neg cf] at hbo
      rw [if_neg cf]
      rw [hbo]
      refine ty_if_eq (pc := 72) (off := 84) (t := 156) (ks := []) (by decide +kernel) (by omega) (fun hc => ?_) (fun hc => ?_)
      rotate_left
      · exact absurd rfl hc
      clear hc
      exact fin I1 A2 ust aw x3 x4 hRh2 hA2' .refl
  · rw [if_neg c1] at hz
    rw [if_neg c1]
    subst hz
    refine ty_if_ne (pc := 4) (off := 5) (t := 9) (ks := []) (by decide +kernel) (by omega) (fun hc => ?_) (fun hc => ?_)
    · exact absurd rfl hc
    refine ty_iconst (pc := 7) (n := 0) (ks := []) (by decide +kernel) ?_
    -- at 8: .ireturn
    refine ty_ret_i (pc := 8) (ks := []) (ty := .boolean) (by decide +kernel) rfl (ty_fit_z (by omega)) ?_
    exact ⟨0, rfl, by simp only [if_neg c1], I1, A1, rfl, hRh, hA1, hn1, fun w => absurd w c1, fun _ => hg1⟩
end RUN
