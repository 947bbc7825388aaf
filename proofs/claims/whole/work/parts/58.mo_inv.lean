/-! What stays true while terms are made same. -/
/-- the chains of free variables: below ns, apart from each other, and from w, those that woke -/
def mo_cw (made ns : Int) (bd : Int → Int) (ch : Int → List Int) (w : List Int) : Prop :=
  (∀ v, 0 ≤ v → v < made → bd v = mo_F → (∀ c ∈ ch v, 0 ≤ c ∧ c < ns) ∧ (ch v).Nodup ∧ (∀ c ∈ ch v, c ∉ w)) ∧ (∀ u v, 0 ≤ u → u < made → 0 ≤ v → v < made → bd u = mo_F → bd v = mo_F → u ≠ v → ∀ c ∈ ch u, c ∉ ch v) ∧ w.Nodup ∧ ∀ c ∈ w, 0 ≤ c ∧ c < ns
theorem mo_F_neg : mo_F < 0 ∧ ¬ 0 ≤ -1 - (0 : Int) := by decide
theorem mo_bw_term {G : mo_G} {made : Int} {bd : Int → Int} (h : mo_bw G made bd) {v t : Int} (ht : mo_ok G made t) (hn : ¬ (65 ≤ mo_l G t ∧ mo_l G t ≤ 90)) : mo_bw G made (mo_up bd v t) := by
  intro u h0 h1
  by_cases e : u = v
  · have : mo_up bd v t u = t := by simp [mo_up, e]
    rw [this]
    exact .inr (.inl ⟨ht.1, ht, hn⟩)
  · have : mo_up bd v t u = bd u := by simp [mo_up, e]
    rw [this]
    exact h u h0 h1
theorem mo_bw_var {G : mo_G} {made : Int} {bd : Int → Int} (h : mo_bw G made bd) {v t : Int} (ht : t < 0 ∧ 0 ≤ -1 - t ∧ -1 - t < v) : mo_bw G made (mo_up bd v t) := by
  intro u h0 h1
  by_cases e : u = v
  · have : mo_up bd v t u = t := by simp [mo_up, e]
    rw [this]
    exact .inr (.inr ⟨ht.1, ht.2.1, by omega⟩)
  · have : mo_up bd v t u = bd u := by simp [mo_up, e]
    rw [this]
    exact h u h0 h1
theorem mo_up_free {bd : Int → Int} {v t u : Int} (ht : t ≠ mo_F) (h : mo_up bd v t u = mo_F) : u ≠ v ∧ bd u = mo_F := by
  by_cases e : u = v
  · have : mo_up bd v t u = t := by simp [mo_up, e]
    rw [this] at h
    exact absurd h ht
  · have : mo_up bd v t u = bd u := by simp [mo_up, e]
    rw [this] at h
    exact ⟨e, h⟩
theorem mo_cw_bind {made ns : Int} {bd : Int → Int} {ch : Int → List Int} {w : List Int} (h : mo_cw made ns bd ch w) {v t : Int} (ht : t ≠ mo_F) : mo_cw made ns (mo_up bd v t) ch w := by
  obtain ⟨h1, h2, h3, h4⟩ := h
  refine ⟨fun u a b c => h1 u a b (mo_up_free ht c).2, fun u x a b c e f g => h2 u x a b c e (mo_up_free ht f).2 (mo_up_free ht g).2, h3, h4⟩
theorem mo_cw_wake {made ns : Int} {bd : Int → Int} {ch : Int → List Int} {w : List Int} (h : mo_cw made ns bd ch w) {v t : Int} (ht : t ≠ mo_F) (hv : 0 ≤ v ∧ v < made ∧ bd v = mo_F) : mo_cw made ns (mo_up bd v t) ch (w ++ ch v) := by
  obtain ⟨h1, h2, h3, h4⟩ := h
  obtain ⟨a1, a2, a3⟩ := h1 v hv.1 hv.2.1 hv.2.2
  refine ⟨fun u a b c => ?_, fun u x a b c e f g => h2 u x a b c e (mo_up_free ht f).2 (mo_up_free ht g).2, ?_, ?_⟩
  · obtain ⟨c1, c2⟩ := mo_up_free ht c
    obtain ⟨b1, b2, b3⟩ := h1 u a b c2
    refine ⟨b1, b2, fun x hx hx2 => ?_⟩
    rcases List.mem_append.mp hx2 with z | z
    · exact b3 x hx z
    · exact h2 u v a b hv.1 hv.2.1 c2 hv.2.2 c1 x hx z
  · rw [List.nodup_append]
    refine ⟨h3, a2, fun x hx y hy => ?_⟩
    intro z
    subst z
    exact a3 x hy hx
  · intro c hc
    rcases List.mem_append.mp hc with z | z
    · exact h4 c z
    · exact a1 c z
theorem mo_cw_link {made ns : Int} {bd : Int → Int} {ch : Int → List Int} {w : List Int} (h : mo_cw made ns bd ch w) {lo hi t : Int} (ht : t ≠ mo_F) (h0 : 0 ≤ lo ∧ lo < hi ∧ hi < made ∧ bd lo = mo_F ∧ bd hi = mo_F) : mo_cw made ns (mo_up bd hi t) (mo_upc ch lo (ch lo ++ ch hi)) w := by
  obtain ⟨h1, h2, h3, h4⟩ := h
  obtain ⟨l0, l1, l2, l3, l4⟩ := h0
  obtain ⟨a1, a2, a3⟩ := h1 lo l0 (by omega) l3
  obtain ⟨b1, b2, b3⟩ := h1 hi (by omega) l2 l4
  have hd := h2 lo hi l0 (by omega) (by omega) l2 l3 l4 (by omega)
  have at_ : ∀ u, u ≠ lo → mo_upc ch lo (ch lo ++ ch hi) u = ch u := fun u hu => by simp [mo_upc, hu]
  have atl : mo_upc ch lo (ch lo ++ ch hi) lo = ch lo ++ ch hi := by simp [mo_upc]
  refine ⟨fun u a b c => ?_, fun u x a b c e f g hux => ?_, h3, h4⟩
  · obtain ⟨c1, c2⟩ := mo_up_free ht c
    by_cases e : u = lo
    · subst e
      rw [atl]
      refine ⟨fun c hc => ?_, ?_, fun c hc => ?_⟩
      · rcases List.mem_append.mp hc with z | z
        · exact a1 c z
        · exact b1 c z
      · rw [List.nodup_append]
        exact ⟨a2, b2, fun x hx y hy z => hd x hx (z ▸ hy)⟩
      · rcases List.mem_append.mp hc with z | z
        · exact a3 c z
        · exact b3 c z
    · rw [at_ u e]
      exact h1 u a b c2
  · obtain ⟨f1, f2⟩ := mo_up_free ht f
    obtain ⟨g1, g2⟩ := mo_up_free ht g
    by_cases e1 : u = lo
    · subst e1
      have e2 : x ≠ u := fun z => hux z.symm
      rw [atl, at_ x e2]
      intro y hy
      rcases List.mem_append.mp hy with z | z
      · exact h2 u x a b c e f2 g2 hux y z
      · exact h2 hi x (by omega) l2 c e l4 g2 (fun z => g1 z.symm) y z
    · rw [at_ u e1]
      by_cases e2 : x = lo
      · subst e2
        rw [atl]
        intro y hy hy2
        rcases List.mem_append.mp hy2 with z | z
        · exact h2 u x a b c e f2 g2 hux y hy z
        · exact h2 u hi a b (by omega) l2 f2 l4 f1 y hy z
      · rw [at_ x e2]
        exact h2 u x a b c e f2 g2 hux
/-- the pairs are terms -/
def mo_po (G : mo_G) (made : Int) (ps : List (Int × Int)) : Prop := ∀ p ∈ ps, mo_ok G made p.1 ∧ mo_ok G made p.2
theorem mo_al_po {G : mo_G} (hw : mo_wf G) {made x y : Int} (hx : mo_ok G made x) (hy : mo_ok G made y) : ∀ (m : Nat) (ps : List (Int × Int)), (m : Int) ≤ mo_a G x → (m : Int) ≤ mo_a G y → mo_po G made ps → mo_po G made (mo_al G x y m ps)
  | 0, _, _, _, h => h
  | m + 1, ps, h1, h2, h => mo_al_po hw hx hy m _ (by omega) (by omega) (fun p hp => by
    rcases List.mem_cons.mp hp with z | z
    · subst z
      exact ⟨mo_ok_arg hw hx (by omega) (by omega), mo_ok_arg hw hy (by omega) (by omega)⟩
    · exact h p z)
theorem mo_al_len {G : mo_G} {x y : Int} : ∀ (m : Nat) (ps : List (Int × Int)), (mo_al G x y m ps).length = ps.length + m
  | 0, _ => rfl
  | m + 1, ps => by
    show (mo_al G x y m ((mo_g G x m, mo_g G y m) :: ps)).length = _
    rw [mo_al_len m]
    simp only [List.length_cons]
    omega
theorem mo_ne_F {x : Int} (h : 0 ≤ -1 - x ∧ -1 - x < 2147483647 ∨ 0 ≤ x) : x ≠ mo_F := by
  intro e
  rw [e] at h
  rcases h with h | h
  · have : (-1 : Int) - mo_F = 2147483647 := by decide
    omega
  · have : mo_F < 0 := by decide
    omega
/-- what one pair leaves true -/
theorem mo_u1_inv {G : mo_G} (hw : mo_wf G) {made ns : Int} (hmade : made ≤ 100000) {tr : Bool} {x y : Int} {ps : List (Int × Int)} {bd : Int → Int} {ch : Int → List Int} {wk dn : List Int} {fl : Bool} {u : mo_U} (h : mo_u1 G tr x y ps bd ch wk fl = some u) (hx : mo_isval G made bd x) (hy : mo_isval G made bd y) (hb : mo_bw G made bd) (hc : mo_cw made ns bd ch (dn ++ wk)) (hp : mo_po G made ps) :
    mo_po G made u.1 ∧ mo_bw G made u.2.1 ∧ mo_cw made ns u.2.1 u.2.2.1 (dn ++ u.2.2.2.1) ∧ u.1.length ≤ ps.length + 3 ∧ (tr = true → u.2.2.1 = ch ∧ u.2.2.2.1 = wk) := by
  unfold mo_u1 at h
  split at h
  · rename_i hxy
    split at h
    · rename_i hla
      cases h
      have hx : mo_ok G made x := by
        rcases hx with z | z
        · omega
        · exact z.2.1
      have hy : mo_ok G made y := by
        rcases hy with z | z
        · omega
        · exact z.2.1
      have ha : 0 ≤ mo_a G x ∧ mo_a G x ≤ 3 := (hw _ hx.2.1).2.2.1
      refine ⟨mo_al_po hw hx hy _ _ (by omega) (by rw [← hla.2]; omega) hp, hb, hc, ?_, fun _ => ⟨rfl, rfl⟩⟩
      show (mo_al G x y (mo_a G x).toNat ps).length ≤ ps.length + 3
      rw [mo_al_len]
      omega
    · cases h
  · rename_i hxy
    split at h
    · rename_i hneg
      have hx : 0 ≤ -1 - x ∧ -1 - x < made ∧ bd (-1 - x) = mo_F := by
        rcases hx with z | z
        · exact z.2
        · omega
      have hy : 0 ≤ -1 - y ∧ -1 - y < made ∧ bd (-1 - y) = mo_F := by
        rcases hy with z | z
        · exact z.2
        · omega
      split at h
      · cases h
        exact ⟨hp, hb, hc, by simp, fun _ => ⟨rfl, rfl⟩⟩
      · split at h
        · rename_i hlt
          cases h
          have hnf : y ≠ mo_F := mo_ne_F (.inl ⟨hy.1, by omega⟩)
          refine ⟨hp, mo_bw_var hb ⟨by omega, hy.1, by omega⟩, ?_, by simp, fun ht => ⟨by simp [ht], rfl⟩⟩
          cases tr
          · exact mo_cw_link hc hnf ⟨hy.1, by omega, hx.2.1, hy.2.2, hx.2.2⟩
          · exact mo_cw_bind hc hnf
        · rename_i hlt
          cases h
          have hnf : x ≠ mo_F := mo_ne_F (.inl ⟨hx.1, by omega⟩)
          refine ⟨hp, mo_bw_var hb ⟨by omega, hx.1, by omega⟩, ?_, by simp, fun ht => ⟨by simp [ht], rfl⟩⟩
          cases tr
          · exact mo_cw_link hc hnf ⟨hx.1, by omega, hy.2.1, hx.2.2, hy.2.2⟩
          · exact mo_cw_bind hc hnf
    · split at h
      · rename_i hneg hx0
        cases h
        have hx : 0 ≤ -1 - x ∧ -1 - x < made ∧ bd (-1 - x) = mo_F := by
          rcases hx with z | z
          · exact z.2
          · omega
        have hy : mo_ok G made y ∧ ¬ (65 ≤ mo_l G y ∧ mo_l G y ≤ 90) := by
          rcases hy with z | z
          · omega
          · exact z.2
        have hnf : y ≠ mo_F := mo_ne_F (.inr hy.1.1)
        refine ⟨hp, mo_bw_term hb hy.1 hy.2, ?_, by simp, fun ht => ⟨rfl, by simp [ht]⟩⟩
        cases tr
        · have := mo_cw_wake hc hnf hx
          rw [List.append_assoc] at this
          exact this
        · exact mo_cw_bind hc hnf
      · rename_i hneg hx0
        cases h
        have hy : 0 ≤ -1 - y ∧ -1 - y < made ∧ bd (-1 - y) = mo_F := by
          rcases hy with z | z
          · exact z.2
          · omega
        have hx : mo_ok G made x ∧ ¬ (65 ≤ mo_l G x ∧ mo_l G x ≤ 90) := by
          rcases hx with z | z
          · omega
          · exact z.2
        have hnf : x ≠ mo_F := mo_ne_F (.inr hx.1.1)
        refine ⟨hp, mo_bw_term hb hx.1 hx.2, ?_, by simp, fun ht => ⟨rfl, by simp [ht]⟩⟩
        cases tr
        · have := mo_cw_wake hc hnf hy
          rw [List.append_assoc] at this
          exact this
        · exact mo_cw_bind hc hnf
