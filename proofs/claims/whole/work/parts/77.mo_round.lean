/-! Rounds, as mathematics. -/
theorem mo_hold_inv {G : mo_G} (hw : mo_wf G) {made ns : Int} (hmade : made ≤ 100000) {dn : List Int} {bd : Int → Int} {ch : Int → List Int} {wk : List Int} {al ar : Int → Int} {an : Int} (hb : mo_bw G made bd) (hcw : mo_cw made ns bd ch (dn ++ wk)) (hok : ∀ i, 0 ≤ i → i < an → mo_ok G made (al i) ∧ mo_ok G made (ar i)) :
    ∀ (m : Nat) (st i : Int) (aw : Int → Bool), 0 ≤ i → i + m ≤ an → 0 ≤ st → st ≤ 500 → ((mo_hold G bd ch wk al ar m st i aw).1 = 0 ∨ (mo_hold G bd ch wk al ar m st i aw).1 = 1 ∨ (mo_hold G bd ch wk al ar m st i aw).1 = 2) ∧ st ≤ (mo_hold G bd ch wk al ar m st i aw).2.1 ∧ (mo_hold G bd ch wk al ar m st i aw).2.1 ≤ 500
  | 0, st, i, aw, _, _, _, h => ⟨.inr (.inl rfl), Int.le_refl _, h⟩
  | m + 1, st, i, aw, h0, h1, h2, h3 => by
    unfold mo_hold
    by_cases e : aw i = true
    · rw [if_pos e]
      have hp : mo_po G made [(al i, ar i)] := fun p hp => by
        rw [List.mem_singleton.mp hp]
        exact hok i h0 (by omega)
      obtain ⟨j1, j2, -⟩ := mo_un_inv hw hmade (tr := true) (501 - st).toNat st [(al i, ar i)] bd ch wk false (by omega) h3 hp hb hcw
      have er : mo_un G true (501 - st).toNat st ([(al i, ar i)], bd, ch, wk, false) = mo_ur G true st ([(al i, ar i)], bd, ch, wk, false) := rfl
      rw [er] at j1 j2
      generalize mo_ur G true st ([(al i, ar i)], bd, ch, wk, false) = r at j1 j2
      by_cases c2 : r.1 = 2
      · rw [if_pos c2]
        exact ⟨.inr (.inr rfl), j2⟩
      · rw [if_neg c2]
        by_cases c1 : r.1 = 1
        · rw [if_pos c1]
          by_cases cf : r.2.2.2.2.2 = true
          · rw [if_pos cf]
            obtain ⟨k1, k2, k3⟩ := mo_hold_inv hw hmade hb hcw hok m r.2.1 (i + 1) aw (by omega) (by omega) (by omega) j2.2
            exact ⟨k1, by omega, k3⟩
          · rw [if_neg cf]
            exact ⟨.inl rfl, j2⟩
        · rw [if_neg c1]
          obtain ⟨k1, k2, k3⟩ := mo_hold_inv hw hmade hb hcw hok m r.2.1 (i + 1) (mo_uw aw i false) (by omega) (by omega) (by omega) j2.2
          exact ⟨k1, by omega, k3⟩
    · rw [if_neg e]
      exact mo_hold_inv hw hmade hb hcw hok m st (i + 1) aw (by omega) (by omega) h2 h3
theorem mo_bdy_ok {P : mo_P} (hW : mo_PW P) (hG : mo_PG P) {made : Int} {tk : Option (Int × Int × Int)} (h : mo_tk P made tk) : ∀ g ∈ mo_bdy P tk, mo_go P.1 made g := by
  intro g hg
  cases tk with
  | none => exact nomatch hg
  | some q =>
    obtain ⟨i, base, bar⟩ := q
    obtain ⟨hi, h0, h1, h2⟩ := h
    obtain ⟨k, hk, rfl⟩ := List.mem_map.mp (show g ∈ (P.2.2.2.2 i).map _ from hg)
    obtain ⟨⟨g1, g2, g3⟩, ⟨g4, g5, g6⟩, -⟩ := hW.2.2 i hi.1 hi.2
    have ok : ∀ n, P.1.2.2.2.2.2 n → n / 48 = P.2.2.1 i / 48 → mo_ok P.1 made (base * 624 + n) := fun n hn hd => by
      have hr := (hW.1 n hn).1
      have e1 : (base * 624 + n) % 624 = n := by omega
      have e2 : (base * 624 + n) / 624 = base := by omega
      refine ⟨by omega, by rw [e1]; exact hn, ?_⟩
      rw [e1, e2, hd, ← g4]
      exact h1
    refine ⟨?_, h2⟩
    rcases hG i hi.1 hi.2 k hk with z | ⟨z1, z2, z3⟩
    · exact .inl z
    · exact .inr ⟨z1, ok _ z2.1 z2.2, ok _ z3.1 z3.2⟩
/-- the second half of a round -/
theorem mo_fin_I {P : mo_P} (hW : mo_PW P) {M : mo_M} {ps : List (Int × Int)} {body : List mo_Go} {newest : Int} (h : mo_MI P M) (hp : mo_po P.1 M.2.2.2.2.2.1.1 ps) (hbo : ∀ g ∈ body, mo_go P.1 M.2.2.2.2.2.1.1 g) (hnew : 0 ≤ newest) :
    ((mo_fin P M ps body newest).1 = 0 ∨ (mo_fin P M ps body newest).1 = 1 ∨ (mo_fin P M ps body newest).1 = 2) ∧ mo_MI P (mo_fin P M ps body newest).2 ∧ M.1 ≤ (mo_fin P M ps body newest).2.1 ∧ (mo_fin P M ps body newest).2.2.2.2.2.2.2.2.1 = M.2.2.2.2.2.2.2.1 := by
  obtain ⟨st, came, sl, al, ar, ⟨made, bd, ch, ns, dn, an, aw⟩, todo, cs, ans⟩ := M
  obtain ⟨b1, b2, ⟨a1, a2, a3, a4, a5, a6, a7, a8⟩, b4⟩ := h
  simp only at b1 b2 a1 a2 a3 a4 a5 a6 a7 a8 b4 hp hbo
  have hmade : made ≤ 100000 := by omega
  obtain ⟨j1, j2, j3, j4, -⟩ := mo_un_inv hW.1 hmade (tr := false) (ns := ns) (dn := dn) (501 - st).toNat st ps bd ch [] false (by omega) b1.2 hp a2 (by rw [List.append_nil]; exact a3)
  unfold mo_fin
  simp only
  have er : mo_un P.1 false (501 - st).toNat st (ps, bd, ch, [], false) = mo_ur P.1 false st (ps, bd, ch, [], false) := rfl
  rw [er] at j1 j2 j3 j4
  generalize mo_ur P.1 false st (ps, bd, ch, [], false) = r at j1 j2 j3 j4
  obtain ⟨c, st1, bd1, ch1, wk, fl⟩ := r
  simp only at j1 j2 j3 j4
  simp only
  have CI : ∀ st', st ≤ st' → mo_CI P sl al ar st' made ns an cs := fun st' h' => mo_CI_eq h' cs _ _ _ _ _ _ b4 (Int.le_refl _) (Int.le_refl _) (Int.le_refl _) (fun _ _ _ => rfl) (fun _ _ _ => ⟨rfl, rfl⟩)
  by_cases ec : c = 1
  · rw [if_pos ec]
    have hfr : ∃ fr : Int, (if fl = true then (0 : Int) else newest) = fr ∧ 0 ≤ fr := ⟨_, rfl, by split <;> omega⟩
    obtain ⟨fr, hfr, hfr0⟩ := hfr
    rw [hfr]
    have hh : ((mo_hold P.1 bd1 ch1 wk al ar (an - fr).toNat st1 fr aw).1 = 0 ∨ (mo_hold P.1 bd1 ch1 wk al ar (an - fr).toNat st1 fr aw).1 = 1 ∨ (mo_hold P.1 bd1 ch1 wk al ar (an - fr).toNat st1 fr aw).1 = 2) ∧ st1 ≤ (mo_hold P.1 bd1 ch1 wk al ar (an - fr).toNat st1 fr aw).2.1 ∧ (mo_hold P.1 bd1 ch1 wk al ar (an - fr).toNat st1 fr aw).2.1 ≤ 500 := by
      by_cases hle : fr ≤ an
      · exact mo_hold_inv hW.1 hmade j3 j4 a7 _ st1 fr aw hfr0 (by omega) (by omega) j2.2
      · rw [show (an - fr).toNat = 0 by omega]
        exact ⟨.inr (.inl rfl), Int.le_refl _, j2.2⟩
    generalize mo_hold P.1 bd1 ch1 wk al ar (an - fr).toNat st1 fr aw = q at hh
    obtain ⟨hc, st2, aw2⟩ := q
    obtain ⟨h1, h2, h3⟩ := hh
    simp only at h1 h2 h3
    simp only
    have hst : st ≤ st2 := by omega
    refine ⟨h1, ⟨⟨show 0 ≤ st2 by omega, h3⟩, ⟨show made ≤ 24 + 24 * st2 by omega, show ns ≤ st2 by omega, show an ≤ st2 by omega, show (cs.length : Int) ≤ st2 by omega⟩, ⟨a1, j3, j4, a4, a5, a6, a7, fun g hg => ?_⟩, CI st2 hst⟩, hst, (by first | trivial | rfl)⟩
    simp only at hg ⊢
    by_cases eh : hc = 1
    · rw [if_pos eh] at hg
      rcases List.mem_append.mp hg with z | z
      · rcases List.mem_append.mp z with y | y
        · obtain ⟨e, he, rfl⟩ := List.mem_map.mp y
          have hen := j4.2.2.2 e (List.mem_append.mpr (.inr he))
          exact ⟨.inr ⟨.inl rfl, a6 e hen.1 hen.2, a6 e hen.1 hen.2⟩, Int.le_refl _, show (0 : Int) ≤ 500 by decide⟩
        · exact hbo g y
      · exact a8 g z
    · rw [if_neg eh] at hg
      exact a8 g hg
  · rw [if_neg ec]
    refine ⟨j1, ⟨⟨show 0 ≤ st1 by omega, j2.2⟩, ⟨show made ≤ 24 + 24 * st1 by omega, show ns ≤ st1 by omega, show an ≤ st1 by omega, show (cs.length : Int) ≤ st1 by omega⟩, ⟨a1, j3, j4, a4, a5, a6, a7, a8⟩, CI st1 j2.1⟩, j2.1, rfl⟩
/-- how many rounds are left at most -/
def mo_phc : List mo_Ch → Int
  | [] => 0
  | c :: cs => 13 - c.2.1 + mo_phc cs
def mo_ph (M : mo_M) : Int := 14 * (500 - M.1) + mo_phc M.2.2.2.2.2.2.2.1
theorem mo_phc_le {P : mo_P} (hn : P.2.1 ≤ 12) {sl al ar : Int → Int} {st : Int} : ∀ (cs : List mo_Ch) (md ns an : Int), mo_CI P sl al ar st md ns an cs → 0 ≤ mo_phc cs ∧ mo_phc cs ≤ 13 * cs.length
  | [], _, _, _, _ => ⟨Int.le_refl _, Int.le_refl _⟩
  | (t, i, todo, V) :: cs, md, ns, an, h => by
    obtain ⟨a1, a2, a3, a4⟩ := h
    have := mo_phc_le hn cs _ _ _ a4
    simp only [mo_phc, List.length_cons]
    omega
theorem mo_phc_drop {P : mo_P} (hn : P.2.1 ≤ 12) {sl al ar : Int → Int} {st : Int} : ∀ (k : Nat) (cs : List mo_Ch) (md ns an : Int), mo_CI P sl al ar st md ns an cs → mo_phc (cs.drop k) ≤ mo_phc cs
  | 0, _, _, _, _, _ => Int.le_refl _
  | _ + 1, [], _, _, _, _ => Int.le_refl _
  | k + 1, (t, i, todo, V) :: cs, md, ns, an, h => by
    obtain ⟨a1, a2, a3, a4⟩ := h
    have := mo_phc_drop hn k cs _ _ _ a4
    simp only [mo_phc, List.drop_succ_cons]
    omega
theorem mo_ph_bound {P : mo_P} (hn : P.2.1 ≤ 12) {M : mo_M} (h : mo_MI P M) : 0 ≤ mo_ph M ∧ mo_ph M ≤ 13500 := by
  obtain ⟨b1, b2, b3, b4⟩ := h
  have := mo_phc_le hn _ _ _ _ b4
  unfold mo_ph
  omega
theorem mo_ta_ph {P : mo_P} {M : mo_M} {t i bar : Int} : mo_ph (mo_ta P M t i bar).2.1 = mo_ph M := by
  obtain ⟨st, came, sl, al, ar, ⟨made, bd, ch, ns, dn, an, aw⟩, todo, cs, ans⟩ := M
  rfl
theorem mo_first_ph {P : mo_P} (hW : mo_PW P) {M : mo_M} (h : mo_MI P M) (h0 : M.2.2.2.2.2.2.1 ≠ []) (h2 : (mo_first P M).1 ≠ 2) : mo_ph (mo_first P M).2.1 < mo_ph M ∧ ((mo_first P M).1 = 0 ∨ (mo_first P M).1 = 1 ∨ (mo_first P M).1 = 3) := by
  obtain ⟨st, came, sl, al, ar, ⟨made, bd, ch, ns, dn, an, aw⟩, todo, cs, ans⟩ := M
  obtain ⟨b1, b2, b3, b4⟩ := h
  simp only at b1 b2 b3 b4
  cases todo with
  | nil => exact absurd rfl h0
  | cons g todo =>
    obtain ⟨s, l, r, b⟩ := g
    unfold mo_first at h2 ⊢
    dsimp only at h2 ⊢
    by_cases e0 : 500 ≤ st
    · rw [if_pos e0] at h2
      exact absurd rfl h2
    rw [if_neg e0]
    have lt : mo_ph (st + 1, came, sl, al, ar, (made, bd, ch, ns, dn, an, aw), todo, cs, ans) < mo_ph (st, came, sl, al, ar, (made, bd, ch, ns, dn, an, aw), (s, l, r, b) :: todo, cs, ans) := by
      simp only [mo_ph]
      omega
    by_cases e1 : s = 33
    · rw [if_pos e1]
      refine ⟨?_, .inr (.inl rfl)⟩
      have := mo_phc_drop hW.2.1 (cs.length - b.toNat) cs _ _ _ b4
      simp only [mo_ph]
      omega
    rw [if_neg e1]
    by_cases e2 : s = 40
    · rw [if_pos e2]
      by_cases n1 : mo_next P l 0 = -1
      · rw [if_pos n1]
        exact ⟨lt, .inl rfl⟩
      · rw [if_neg n1, mo_ta_ph]
        obtain ⟨q1, q2, q3⟩ := (mo_next_spec (P := P) (t := l) (Int.le_refl 0)).resolve_left n1
        refine ⟨?_, .inr (.inl rfl)⟩
        by_cases n2 : mo_next P l (mo_next P l 0 + 1) = -1
        · rw [if_pos n2]
          exact lt
        · rw [if_neg n2]
          obtain ⟨p1, p2, p3⟩ := (mo_next_spec (P := P) (t := l) (show 0 ≤ mo_next P l 0 + 1 by omega)).resolve_left n2
          simp only [mo_ph, mo_phc]
          omega
    rw [if_neg e2]
    by_cases e3 : s = 61
    · rw [if_pos e3]
      exact ⟨lt, .inr (.inl rfl)⟩
    rw [if_neg e3]
    by_cases e4 : s = 126
    · rw [if_pos e4]
      exact ⟨lt, .inr (.inl rfl)⟩
    rw [if_neg e4]
    by_cases e5 : s = 60
    · rw [if_pos e5]
      split
      · refine ⟨lt, ?_⟩
        simp only
        split
        · exact .inr (.inl rfl)
        · exact .inl rfl
      · exact ⟨lt, .inr (.inr rfl)⟩
    rw [if_neg e5]
    by_cases e6 : mo_val P.1 bd l < 0
    · rw [if_pos e6]
      exact ⟨lt, .inr (.inl rfl)⟩
    · rw [if_neg e6]
      exact ⟨lt, .inr (.inl rfl)⟩
theorem mo_bk_ph {P : mo_P} (hW : mo_PW P) {M : mo_M} (h : mo_MI P M) (h0 : M.2.2.2.2.2.2.2.1 ≠ []) : mo_ph (mo_bk P M).2.1 < mo_ph M ∧ (mo_bk P M).1 = 1 := by
  obtain ⟨st, came, sl, al, ar, V, todo, cs, ans⟩ := M
  cases cs with
  | nil => exact absurd rfl h0
  | cons c cs =>
    obtain ⟨t, i, todo', V'⟩ := c
    obtain ⟨b1, b2, b3, ⟨d1, d2, d3, d4⟩⟩ := h
    simp only at b1 b2 b3 d1 d2 d3 d4
    have hn := hW.2.1
    unfold mo_bk
    refine ⟨?_, rfl⟩
    rw [mo_ta_ph]
    by_cases n2 : mo_next P t (i + 1) = -1
    · rw [if_pos n2]
      simp only [mo_ph, mo_phc]
      omega
    · rw [if_neg n2]
      obtain ⟨p1, p2, p3⟩ := (mo_next_spec (P := P) (t := t) (show 0 ≤ i + 1 by omega)).resolve_left n2
      simp only [mo_ph, mo_phc]
      omega
