/-! What holds of the search as mathematics, all the time. -/
/-- a goal is well made -/
def mo_go (G : mo_G) (made : Int) (g : mo_Go) : Prop := (g.1 = 33 ∨ ((g.1 = 40 ∨ g.1 = 61 ∨ g.1 = 126 ∨ g.1 = 60 ∨ g.1 = 63) ∧ mo_ok G made g.2.1 ∧ mo_ok G made g.2.2.1)) ∧ 0 ≤ g.2.2.2 ∧ g.2.2.2 ≤ 500
/-- the clauses' goals are well made -/
def mo_PG (P : mo_P) : Prop := ∀ i, 0 ≤ i → i < (P.2.1 : Int) → ∀ g ∈ P.2.2.2.2 i, g.1 = 33 ∨ ((g.1 = 40 ∨ g.1 = 61 ∨ g.1 = 126 ∨ g.1 = 60 ∨ g.1 = 63) ∧ (P.1.2.2.2.2.2 g.2.1 ∧ g.2.1 / 48 = P.2.2.1 i / 48) ∧ P.1.2.2.2.2.2 g.2.2 ∧ g.2.2 / 48 = P.2.2.1 i / 48)
def mo_VI (P : mo_P) (sl al ar : Int → Int) (V : mo_V) (todo : List mo_Go) : Prop := 0 ≤ V.1 ∧ mo_bw P.1 V.1 V.2.1 ∧ mo_cw V.1 V.2.2.2.1 V.2.1 V.2.2.1 V.2.2.2.2.1 ∧ 0 ≤ V.2.2.2.1 ∧ 0 ≤ V.2.2.2.2.2.1 ∧ (∀ e, 0 ≤ e → e < V.2.2.2.1 → mo_ok P.1 V.1 (sl e)) ∧ (∀ i, 0 ≤ i → i < V.2.2.2.2.2.1 → mo_ok P.1 V.1 (al i) ∧ mo_ok P.1 V.1 (ar i)) ∧ ∀ g ∈ todo, mo_go P.1 V.1 g
def mo_CI (P : mo_P) (sl al ar : Int → Int) (st : Int) : Int → Int → Int → List mo_Ch → Prop
  | _, _, _, [] => True
  | md, ns, an, (t, i, todo, V) :: cs => (V.1 ≤ md ∧ V.1 ≤ 24 * st ∧ V.2.2.2.1 ≤ ns ∧ V.2.2.2.2.2.1 ≤ an) ∧ (0 ≤ i ∧ i < (P.2.1 : Int) ∧ mo_fits P t i = true ∧ mo_ok P.1 V.1 t) ∧ mo_VI P sl al ar V todo ∧ mo_CI P sl al ar st V.1 V.2.2.2.1 V.2.2.2.2.2.1 cs
def mo_MI (P : mo_P) (M : mo_M) : Prop := (0 ≤ M.1 ∧ M.1 ≤ 500) ∧ (M.2.2.2.2.2.1.1 ≤ 24 + 24 * M.1 ∧ M.2.2.2.2.2.1.2.2.2.1 ≤ M.1 ∧ M.2.2.2.2.2.1.2.2.2.2.2.1 ≤ M.1 ∧ (M.2.2.2.2.2.2.2.1.length : Int) ≤ M.1) ∧ mo_VI P M.2.2.1 M.2.2.2.1 M.2.2.2.2.1 M.2.2.2.2.2.1 M.2.2.2.2.2.2.1 ∧ mo_CI P M.2.2.1 M.2.2.2.1 M.2.2.2.2.1 M.1 M.2.2.2.2.2.1.1 M.2.2.2.2.2.1.2.2.2.1 M.2.2.2.2.2.1.2.2.2.2.2.1 M.2.2.2.2.2.2.2.1
theorem mo_go_up {G : mo_G} {made made' : Int} {g : mo_Go} (h : mo_go G made g) (hm : made ≤ made') : mo_go G made' g := by
  refine ⟨?_, h.2⟩
  rcases h.1 with z | ⟨z1, z2, z3⟩
  · exact .inl z
  · exact .inr ⟨z1, mo_ok_up z2 hm, mo_ok_up z3 hm⟩
theorem mo_VI_eq {P : mo_P} {sl al ar sl' al' ar' : Int → Int} {V : mo_V} {todo : List mo_Go} (h : mo_VI P sl al ar V todo) (h1 : ∀ e, 0 ≤ e → e < V.2.2.2.1 → sl' e = sl e) (h2 : ∀ i, 0 ≤ i → i < V.2.2.2.2.2.1 → al' i = al i ∧ ar' i = ar i) : mo_VI P sl' al' ar' V todo := by
  obtain ⟨a1, a2, a3, a4, a5, a6, a7, a8⟩ := h
  exact ⟨a1, a2, a3, a4, a5, fun e e0 e1 => by rw [h1 e e0 e1]; exact a6 e e0 e1, fun i i0 i1 => by rw [(h2 i i0 i1).1, (h2 i i0 i1).2]; exact a7 i i0 i1, a8⟩
theorem mo_CI_eq {P : mo_P} {sl al ar sl' al' ar' : Int → Int} {st st' : Int} (hst : st ≤ st') : ∀ (cs : List mo_Ch) (md ns an md' ns' an' : Int), mo_CI P sl al ar st md ns an cs → md ≤ md' → ns ≤ ns' → an ≤ an' → (∀ e, 0 ≤ e → e < ns → sl' e = sl e) → (∀ i, 0 ≤ i → i < an → al' i = al i ∧ ar' i = ar i) → mo_CI P sl' al' ar' st' md' ns' an' cs
  | [], _, _, _, _, _, _, _, _, _, _, _, _ => trivial
  | (t, i, todo, V) :: cs, md, ns, an, md', ns', an', h, h1, h2, h3, h4, h5 => by
    obtain ⟨a1, a2, a3, a4⟩ := h
    refine ⟨by omega, a2, mo_VI_eq a3 (fun e e0 e1 => h4 e e0 (by omega)) (fun i i0 i1 => h5 i i0 (by omega)), ?_⟩
    exact mo_CI_eq hst cs _ _ _ _ _ _ a4 (Int.le_refl _) (Int.le_refl _) (Int.le_refl _) (fun e e0 e1 => h4 e e0 (by omega)) (fun i i0 i1 => h5 i i0 (by omega))
theorem mo_CI_drop {P : mo_P} {sl al ar : Int → Int} {st : Int} : ∀ (k : Nat) (cs : List mo_Ch) (md ns an : Int), mo_CI P sl al ar st md ns an cs → mo_CI P sl al ar st md ns an (cs.drop k)
  | 0, _, _, _, _, h => h
  | _ + 1, [], _, _, _, _ => trivial
  | k + 1, (t, i, todo, V) :: cs, md, ns, an, h => by
    obtain ⟨a1, a2, a3, a4⟩ := h
    exact mo_CI_drop k cs md ns an (mo_CI_eq (Int.le_refl _) cs _ _ _ _ _ _ a4 a1.1 a1.2.2.1 a1.2.2.2 (fun _ _ _ => rfl) (fun _ _ _ => ⟨rfl, rfl⟩))
/-- new variables -/
theorem mo_VI_new {P : mo_P} {sl al ar : Int → Int} {made : Int} {bd : Int → Int} {ch : Int → List Int} {ns : Int} {dn : List Int} {an : Int} {aw : Int → Bool} {todo : List mo_Go} (h : mo_VI P sl al ar (made, bd, ch, ns, dn, an, aw) todo) {nv : Int} (hn : 0 ≤ nv) : mo_VI P sl al ar (made + nv, mo_nb bd made (made + nv), mo_nc ch made (made + nv), ns, dn, an, aw) todo := by
  obtain ⟨a1, a2, a3, a4, a5, a6, a7, a8⟩ := h
  simp only at a1 a2 a3 a4 a5 a6 a7 a8
  have up : made ≤ made + nv := by omega
  have nb0 : ∀ v, v < made → mo_nb bd made (made + nv) v = bd v := fun v hv => if_neg (by omega)
  have nc0 : ∀ v, v < made → mo_nc ch made (made + nv) v = ch v := fun v hv => if_neg (by omega)
  have nc1 : ∀ v, ¬ v < made → v < made + nv → mo_nc ch made (made + nv) v = [] := fun v hv h2 => if_pos (by omega)
  refine ⟨show 0 ≤ made + nv by omega, fun v v0 v1 => ?_, ⟨fun v v0 v1 vf => ?_, fun u v u0 u1 v0 v1 uf vf huv => ?_, a3.2.2.1, a3.2.2.2⟩, a4, a5, fun e e0 e1 => mo_ok_up (a6 e e0 e1) up, fun i i0 i1 => ⟨mo_ok_up (a7 i i0 i1).1 up, mo_ok_up (a7 i i0 i1).2 up⟩, fun g hg => mo_go_up (a8 g hg) up⟩
  · simp only at v1 ⊢
    by_cases e : v < made
    · rw [nb0 v e]
      rcases a2 v v0 e with z | ⟨z1, z2, z3⟩ | z
      · exact .inl z
      · exact .inr (.inl ⟨z1, mo_ok_up z2 up, z3⟩)
      · exact .inr (.inr z)
    · exact .inl (if_pos (by omega))
  · simp only at v1 vf ⊢
    by_cases e : v < made
    · rw [nc0 v e]
      rw [nb0 v e] at vf
      exact a3.1 v v0 e vf
    · rw [nc1 v e v1]
      exact ⟨fun c hc => (nomatch hc), List.nodup_nil, fun c hc => (nomatch hc)⟩
  · simp only at u1 v1 uf vf ⊢
    by_cases e : u < made
    · by_cases e2 : v < made
      · rw [nc0 u e, nc0 v e2]
        rw [nb0 u e] at uf
        rw [nb0 v e2] at vf
        exact a3.2.1 u v u0 e v0 e2 uf vf huv
      · rw [nc1 v e2 v1]
        exact fun c _ hc => (nomatch hc)
    · rw [nc1 u e u1]
      exact fun c hc => (nomatch hc)
/-- a text in use fits -/
def mo_tk (P : mo_P) (made : Int) (tk : Option (Int × Int × Int)) : Prop := match tk with
  | none => True
  | some (i, base, bar) => (0 ≤ i ∧ i < (P.2.1 : Int)) ∧ 0 ≤ base ∧ base + P.2.2.2.1 i ≤ made ∧ 0 ≤ bar ∧ bar ≤ 500
/-- what the beginning of a round leaves -/
def mo_1I (P : mo_P) (r : mo_R1) : Prop := mo_MI P r.2.1 ∧ mo_po P.1 r.2.1.2.2.2.2.2.1.1 r.2.2.1 ∧ r.2.2.1.length ≤ 3 ∧ mo_tk P r.2.1.2.2.2.2.2.1.1 r.2.2.2
theorem mo_head_ok {P : mo_P} (hW : mo_PW P) {i made : Int} (hi : 0 ≤ i ∧ i < P.2.1) (hm : 0 ≤ made) : mo_ok P.1 (made + P.2.2.2.1 i) (made * 624 + P.2.2.1 i) ∧ (made * 624 + P.2.2.1 i) % 624 = P.2.2.1 i := by
  obtain ⟨w1, w2, w3⟩ := hW
  obtain ⟨⟨g1, g2, g3⟩, ⟨g4, g5, g6⟩, -⟩ := w3 i hi.1 hi.2
  have e1 : (made * 624 + P.2.2.1 i) % 624 = P.2.2.1 i := by omega
  have e2 : (made * 624 + P.2.2.1 i) / 624 = made := by omega
  refine ⟨⟨by omega, by rw [e1]; exact g1, ?_⟩, e1⟩
  rw [e1, e2, ← g4]
  exact Int.le_refl _
theorem mo_ta_I {P : mo_P} (hW : mo_PW P) {st came : Int} {sl al ar : Int → Int} {made : Int} {bd : Int → Int} {ch : Int → List Int} {ns : Int} {dn : List Int} {an : Int} {aw : Int → Bool} {todo : List mo_Go} {cs : List mo_Ch} {ans : Int} (h : mo_MI P (st, came, sl, al, ar, (made, bd, ch, ns, dn, an, aw), todo, cs, ans)) {t i bar : Int} (hi : 0 ≤ i ∧ i < (P.2.1 : Int)) (ht : mo_ok P.1 made t) (hfit : mo_fits P t i = true) (hbar : 0 ≤ bar ∧ bar ≤ 500) (hmd : made ≤ 24 * st) :
    mo_1I P (mo_ta P (st, came, sl, al, ar, (made, bd, ch, ns, dn, an, aw), todo, cs, ans) t i bar) := by
  obtain ⟨b1, b2, b3, b4⟩ := h
  simp only at b1 b2 b3 b4
  have hm0 : 0 ≤ made := b3.1
  obtain ⟨h1, h2⟩ := mo_head_ok hW hi hm0
  obtain ⟨⟨g1, g2, g3⟩, ⟨g4, g5, g6⟩, -⟩ := hW.2.2 i hi.1 hi.2
  have hfa : mo_a P.1 t = mo_a P.1 (made * 624 + P.2.2.1 i) := by
    unfold mo_fits at hfit
    simp only [Bool.and_eq_true, decide_eq_true_eq] at hfit
    have := hfit.2
    unfold mo_a at this ⊢
    rw [h2]
    rw [show P.2.2.1 i % 624 = P.2.2.1 i by omega] at this
    exact this.symm
  have hax : 0 ≤ mo_a P.1 (made * 624 + P.2.2.1 i) ∧ mo_a P.1 (made * 624 + P.2.2.1 i) ≤ 3 := (hW.1 _ h1.2.1).2.2.1
  refine ⟨⟨b1, ⟨show made + P.2.2.2.1 i ≤ 24 + 24 * st by omega, b2.2⟩, mo_VI_new b3 g5, ?_⟩, ?_, ?_, hi, hm0, Int.le_refl _, hbar⟩
  · exact mo_CI_eq (Int.le_refl _) cs _ _ _ _ _ _ b4 (show made ≤ made + P.2.2.2.1 i by omega) (Int.le_refl _) (Int.le_refl _) (fun _ _ _ => rfl) (fun _ _ _ => ⟨rfl, rfl⟩)
  · exact mo_al_po hW.1 h1 (mo_ok_up ht (by omega)) _ _ (by omega) (by omega) (fun p hp => (nomatch hp))
  · show (mo_al P.1 _ t _ []).length ≤ 3
    rw [mo_al_len]
    simp only [List.length_nil]
    omega
theorem mo_first_I {P : mo_P} (hW : mo_PW P) {M : mo_M} (h : mo_MI P M) (h2 : (mo_first P M).1 ≠ 2) : mo_1I P (mo_first P M) := by
  obtain ⟨st, came, sl, al, ar, ⟨made, bd, ch, ns, dn, an, aw⟩, todo, cs, ans⟩ := M
  have hh := h
  obtain ⟨b1, b2, b3, b4⟩ := h
  simp only at b1 b2 b3 b4
  have none_ok : ∀ {m : Int}, mo_po P.1 m [] := fun p hp => (nomatch hp)
  cases todo with
  | nil => exact ⟨hh, none_ok, Nat.zero_le _, trivial⟩
  | cons g todo =>
    obtain ⟨s, l, r, b⟩ := g
    have b3' := b3
    obtain ⟨a1, a2, a3, a4, a5, a6, a7, a8⟩ := b3'
    simp only at a1 a2 a3 a4 a5 a6 a7 a8
    obtain ⟨c1, c2⟩ := a8 (s, l, r, b) List.mem_cons_self
    simp only at c1 c2
    have at' : ∀ g ∈ todo, mo_go P.1 made g := fun g hg => a8 g (List.mem_cons_of_mem _ hg)
    have b3t : mo_VI P sl al ar (made, bd, ch, ns, dn, an, aw) todo := ⟨a1, a2, a3, a4, a5, a6, a7, at'⟩
    unfold mo_first at h2 ⊢
    dsimp only at h2 ⊢
    by_cases e0 : 500 ≤ st
    · rw [if_pos e0] at h2
      exact absurd rfl h2
    rw [if_neg e0]
    have bC : mo_CI P sl al ar (st + 1) made ns an cs := mo_CI_eq (show st ≤ st + 1 by omega) cs _ _ _ _ _ _ b4 (Int.le_refl _) (Int.le_refl _) (Int.le_refl _) (fun _ _ _ => rfl) (fun _ _ _ => ⟨rfl, rfl⟩)
    have base : mo_MI P (st + 1, came, sl, al, ar, (made, bd, ch, ns, dn, an, aw), todo, cs, ans) := ⟨⟨show 0 ≤ st + 1 by omega, show st + 1 ≤ 500 by omega⟩, ⟨show made ≤ 24 + 24 * (st + 1) by omega, show ns ≤ st + 1 by omega, show an ≤ st + 1 by omega, show (cs.length : Int) ≤ st + 1 by omega⟩, b3t, bC⟩
    by_cases e1 : s = 33
    · rw [if_pos e1]
      refine ⟨⟨base.1, ⟨base.2.1.1, base.2.1.2.1, base.2.1.2.2.1, ?_⟩, b3t, mo_CI_drop _ cs _ _ _ bC⟩, none_ok, Nat.zero_le _, trivial⟩
      show ((cs.drop (cs.length - b.toNat)).length : Int) ≤ st + 1
      rw [List.length_drop]
      omega
    rw [if_neg e1]
    have c1 := c1.resolve_left e1
    by_cases e2 : s = 40
    · rw [if_pos e2]
      by_cases n1 : mo_next P l 0 = -1
      · rw [if_pos n1]
        exact ⟨base, none_ok, Nat.zero_le _, trivial⟩
      · rw [if_neg n1]
        obtain ⟨q1, q2, q3⟩ := (mo_next_spec (P := P) (t := l) (Int.le_refl 0)).resolve_left n1
        refine mo_ta_I hW ?_ ⟨q1, q2⟩ c1.2.1 q3 ⟨Int.natCast_nonneg _, by omega⟩ (show made ≤ 24 * (st + 1) by omega)
        by_cases n2 : mo_next P l (mo_next P l 0 + 1) = -1
        · rw [if_pos n2]
          exact base
        · rw [if_neg n2]
          obtain ⟨p1, p2, p3⟩ := (mo_next_spec (P := P) (t := l) (show 0 ≤ mo_next P l 0 + 1 by omega)).resolve_left n2
          refine ⟨base.1, ⟨base.2.1.1, base.2.1.2.1, base.2.1.2.2.1, ?_⟩, b3t, ⟨Int.le_refl _, show made ≤ 24 * (st + 1) by omega, Int.le_refl _, Int.le_refl _⟩, ⟨by omega, p2, p3, c1.2.1⟩, b3t, bC⟩
          simp only [List.length_cons]
          omega
    rw [if_neg e2]
    by_cases e3 : s = 61
    · rw [if_pos e3]
      refine ⟨base, fun p hp => ?_, (by simp), trivial⟩
      rw [List.mem_singleton.mp hp]
      exact ⟨c1.2.1, c1.2.2⟩
    rw [if_neg e3]
    by_cases e4 : s = 126
    · rw [if_pos e4]
      refine ⟨⟨base.1, ⟨base.2.1.1, base.2.1.2.1, show an + 1 ≤ st + 1 by omega, base.2.1.2.2.2⟩, ⟨a1, a2, a3, a4, show 0 ≤ an + 1 by omega, a6, fun i i0 i1 => ?_, at'⟩, ?_⟩, none_ok, Nat.zero_le _, trivial⟩
      · simp only at i1 ⊢
        unfold mo_up
        by_cases ei : i = an
        · rw [if_pos ei, if_pos ei]
          exact ⟨c1.2.1, c1.2.2⟩
        · rw [if_neg ei, if_neg ei]
          exact a7 i i0 (by omega)
      · refine mo_CI_eq (Int.le_refl _) cs _ _ _ _ _ _ bC (Int.le_refl _) (Int.le_refl _) (show an ≤ an + 1 by omega) (fun _ _ _ => rfl) (fun i i0 i1 => ?_)
        unfold mo_up
        exact ⟨if_neg (by omega), if_neg (by omega)⟩
    rw [if_neg e4]
    by_cases e5 : s = 60
    · rw [if_pos e5]
      split
      · exact ⟨base, none_ok, Nat.zero_le _, trivial⟩
      · exact ⟨base, none_ok, Nat.zero_le _, trivial⟩
    rw [if_neg e5]
    by_cases e6 : mo_val P.1 bd l < 0
    · rw [if_pos e6]
      have hiv := mo_val_isval hW.1 a2 (.inl c1.2.1)
      have hv := hiv.resolve_right (fun z => by have := z.1; omega)
      generalize hv0 : -1 - mo_val P.1 bd l = v at hv
      obtain ⟨v1, v2, v3, v4⟩ := hv
      refine ⟨⟨base.1, ⟨base.2.1.1, show ns + 1 ≤ st + 1 by omega, base.2.1.2.2.1, base.2.1.2.2.2⟩, ⟨a1, a2, ?_, show 0 ≤ ns + 1 by omega, a5, fun e e0 e1 => ?_, a7, at'⟩, ?_⟩, none_ok, Nat.zero_le _, trivial⟩
      · obtain ⟨k1, k2, k3, k4⟩ := a3
        have nin : ∀ u, 0 ≤ u → u < made → bd u = mo_F → ns ∉ ch u := fun u u0 u1 uf hm => by have := (k1 u u0 u1 uf).1 ns hm; omega
        have upc : ∀ u c, c ∈ mo_upc ch v (ch v ++ [ns]) u → c ∈ ch u ∨ (u = v ∧ c = ns) := fun u c hcm => by
          unfold mo_upc at hcm
          by_cases eu : u = v
          · rw [if_pos eu] at hcm
            rcases List.mem_append.mp hcm with z | z
            · exact .inl (by rw [eu]; exact z)
            · exact .inr ⟨eu, List.mem_singleton.mp z⟩
          · rw [if_neg eu] at hcm
            exact .inl hcm
        refine ⟨fun u u0 u1 uf => ⟨fun c hcm => ?_, ?_, fun c hcm hw => ?_⟩, fun u w u0 u1 w0 w1 uf wf huw c hcm hcw => ?_, k3, fun c hcw => ?_⟩
        · simp only at u1 uf hcm ⊢
          rcases upc u c hcm with z | ⟨-, z⟩
          · have := (k1 u u0 u1 uf).1 c z; omega
          · omega
        · simp only at u1 uf ⊢
          unfold mo_upc
          by_cases eu : u = v
          · rw [if_pos eu]
            refine List.nodup_append.mpr ⟨(k1 v v2 v3 v4).2.1, by simp, fun x hx y hy => ?_⟩
            rw [List.mem_singleton.mp hy]
            exact fun z => nin v v2 v3 v4 (by rw [← z]; exact hx)
          · rw [if_neg eu]
            exact (k1 u u0 u1 uf).2.1
        · simp only at u1 uf hcm hw
          rcases upc u c hcm with z | ⟨-, z⟩
          · exact (k1 u u0 u1 uf).2.2 c z hw
          · have := k4 c hw; omega
        · simp only at u1 w1 uf wf hcm hcw
          rcases upc u c hcm with z | ⟨z1, z2⟩
          · rcases upc w c hcw with y | ⟨y1, y2⟩
            · exact k2 u w u0 u1 w0 w1 uf wf huw c z y
            · exact nin u u0 u1 uf (by rw [← y2]; exact z)
          · rcases upc w c hcw with y | ⟨y1, y2⟩
            · exact nin w w0 w1 wf (by rw [← z2]; exact y)
            · exact huw (z1.trans y1.symm)
        · have := k4 c hcw
          exact ⟨this.1, show c < ns + 1 by omega⟩
      · simp only at e1 ⊢
        unfold mo_up
        by_cases ee : e = ns
        · rw [if_pos ee]; exact c1.2.2
        · rw [if_neg ee]; exact a6 e e0 (by omega)
      · refine mo_CI_eq (Int.le_refl _) cs _ _ _ _ _ _ bC (Int.le_refl _) (show ns ≤ ns + 1 by omega) (Int.le_refl _) (fun e e0 e1 => ?_) (fun _ _ _ => ⟨rfl, rfl⟩)
        unfold mo_up
        exact if_neg (by omega)
    · rw [if_neg e6]
      refine ⟨⟨base.1, base.2.1, ⟨a1, a2, a3, a4, a5, a6, a7, fun g hg => ?_⟩, bC⟩, none_ok, Nat.zero_le _, trivial⟩
      rcases List.mem_cons.mp hg with z | z
      · rw [z]
        exact ⟨.inr ⟨.inl rfl, c1.2.2, c1.2.2⟩, Int.le_refl _, show (0 : Int) ≤ 500 by decide⟩
      · exact at' g z
theorem mo_bk_I {P : mo_P} (hW : mo_PW P) {M : mo_M} (h : mo_MI P M) : mo_1I P (mo_bk P M) := by
  obtain ⟨st, came, sl, al, ar, V, todo, cs, ans⟩ := M
  cases cs with
  | nil => exact ⟨h, fun p hp => (nomatch hp), Nat.zero_le _, trivial⟩
  | cons c cs =>
    obtain ⟨t, i, todo', made, bd, ch, ns, dn, an, aw⟩ := c
    obtain ⟨b1, b2, b3, ⟨d1, d2, d3, d4⟩⟩ := h
    simp only [List.length_cons] at b1 b2 b3 d1 d2 d3 d4
    unfold mo_bk
    refine mo_ta_I hW ?_ ⟨d2.1, d2.2.1⟩ d2.2.2.2 d2.2.2.1 ⟨Int.natCast_nonneg _, by omega⟩ d1.2.1
    refine ⟨b1, ⟨show made ≤ 24 + 24 * st by omega, show ns ≤ st by omega, show an ≤ st by omega, ?_⟩, d3, ?_⟩
    · show ((if _ then cs else _ :: cs : List mo_Ch).length : Int) ≤ st
      split
      · omega
      · simp only [List.length_cons]; omega
    · show mo_CI P sl al ar st made ns an (if _ then cs else _ :: cs : List mo_Ch)
      split
      · exact d4
      · rename_i n2
        obtain ⟨p1, p2, p3⟩ := (mo_next_spec (P := P) (t := t) (show 0 ≤ i + 1 by omega)).resolve_left n2
        exact ⟨⟨Int.le_refl _, d1.2.1, Int.le_refl _, Int.le_refl _⟩, ⟨by omega, p2, p3, d2.2.2.2⟩, d3, d4⟩
