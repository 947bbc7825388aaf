/-! THE SEARCH, as mathematics. A goal: sign, left, right, barrier. What a choice restores: made, bd, ch, ns, dn (who woke), an, aw. A choice: call, clause, goals to do, what it restores. A program: G, how many clauses, their first nodes, how many variables, their goals (sign, left node, right node). -/
abbrev mo_Go : Type := Int × Int × Int × Int
abbrev mo_V : Type := Int × (Int → Int) × (Int → List Int) × Int × List Int × Int × (Int → Bool)
abbrev mo_Ch : Type := Int × Int × List mo_Go × mo_V
/-- steps, came, sl, al, ar, V, todo, choices, answers -/
abbrev mo_M : Type := Int × Int × (Int → Int) × (Int → Int) × (Int → Int) × mo_V × List mo_Go × List mo_Ch × Int
abbrev mo_P : Type := mo_G × Nat × (Int → Int) × (Int → Int) × (Int → List (Int × Int × Int))
def mo_fits (P : mo_P) (t i : Int) : Bool := decide (mo_l P.1 (P.2.2.1 i) = mo_l P.1 t) && decide (mo_a P.1 (P.2.2.1 i) = mo_a P.1 t)
/-- the next clause from i on, m are left; -1 if there is none -/
def mo_find (P : mo_P) (t : Int) : Nat → Int → Int
  | 0, _ => -1
  | m + 1, i => if mo_fits P t i = true then i else mo_find P t m (i + 1)
def mo_next (P : mo_P) (t i : Int) : Int := mo_find P t ((P.2.1 : Int) - i).toNat i
theorem mo_find_spec {P : mo_P} {t : Int} : ∀ (m : Nat) (i : Int), mo_find P t m i = -1 ∨ (i ≤ mo_find P t m i ∧ mo_find P t m i < i + m ∧ mo_fits P t (mo_find P t m i) = true)
  | 0, _ => .inl rfl
  | m + 1, i => by
    unfold mo_find
    by_cases e : mo_fits P t i = true
    · rw [if_pos e]
      exact .inr ⟨Int.le_refl _, by omega, e⟩
    · rw [if_neg e]
      rcases mo_find_spec m (i + 1) with z | ⟨z1, z2, z3⟩
      · exact .inl z
      · exact .inr ⟨by omega, by omega, z3⟩
theorem mo_next_spec {P : mo_P} {t i : Int} (hi : 0 ≤ i) : mo_next P t i = -1 ∨ (i ≤ mo_next P t i ∧ mo_next P t i < P.2.1 ∧ mo_fits P t (mo_next P t i) = true) := by
  rcases mo_find_spec (P := P) (t := t) ((P.2.1 : Int) - i).toNat i with z | ⟨z1, z2, z3⟩
  · exact .inl z
  · exact .inr ⟨z1, by unfold mo_next; omega, z3⟩
/-- new variables -/
def mo_nb (bd : Int → Int) (a c : Int) : Int → Int := fun v => if a ≤ v ∧ v < c then mo_F else bd v
def mo_nc (ch : Int → List Int) (a c : Int) : Int → List Int := fun v => if a ≤ v ∧ v < c then [] else ch v
/-- a clause's goals in use -/
def mo_body (P : mo_P) (i base bar : Int) : List mo_Go := (P.2.2.2.2 i).map fun g => (g.1, base * 624 + g.2.1, base * 624 + g.2.2, bar)
def mo_wg (sl : Int → Int) (wk : List Int) : List mo_Go := wk.map fun e => (40, sl e, sl e, 0)
/-- the pairs are made same, those that wait are tested, then the new goals stand in front: 1 well, 0 not, 2 too many steps -/
def mo_fin (P : mo_P) (M : mo_M) (ps : List (Int × Int)) (body : List mo_Go) (newest : Int) : Int × mo_M :=
  match M with
  | (st, came, sl, al, ar, (made, bd, ch, ns, dn, an, aw), todo, cs, ans) =>
    match mo_ur P.1 false st (ps, bd, ch, [], false) with
    | (c, st1, bd1, ch1, wk, fl) =>
      if c = 1 then
        match mo_hold P.1 bd1 ch1 wk al ar (an - (if fl = true then 0 else newest)).toNat st1 (if fl = true then 0 else newest) aw with
        | (h, st2, aw2) => (h, (st2, came, sl, al, ar, (made, bd1, ch1, ns, dn ++ wk, an, aw2), if h = 1 then mo_wg sl wk ++ body ++ todo else todo, cs, ans))
      else (c, (st1, came, sl, al, ar, (made, bd1, ch1, ns, dn ++ wk, an, aw), todo, cs, ans))
/-- a text in use: which clause, its first variable, the barrier -/
def mo_bd (gs : List (Int × Int × Int)) (base bar : Int) : List mo_Go := gs.map fun g => (g.1, base * 624 + g.2.1, base * 624 + g.2.2, bar)
def mo_bdy (P : mo_P) (tk : Option (Int × Int × Int)) : List mo_Go := match tk with
  | none => []
  | some (i, base, bar) => mo_bd (P.2.2.2.2 i) base bar
abbrev mo_R1 : Type := Int × mo_M × List (Int × Int) × Option (Int × Int × Int)
/-- a clause is taken for a call -/
def mo_ta (P : mo_P) (M : mo_M) (t i bar : Int) : mo_R1 :=
  match M with
  | (st, came, sl, al, ar, (made, bd, ch, ns, dn, an, aw), todo, cs, ans) =>
    (1, (st, came + P.2.2.2.1 i, sl, al, ar, (made + P.2.2.2.1 i, mo_nb bd made (made + P.2.2.2.1 i), mo_nc ch made (made + P.2.2.2.1 i), ns, dn, an, aw), todo, cs, ans), mo_al P.1 (made * 624 + P.2.2.1 i) t (mo_a P.1 (made * 624 + P.2.2.1 i)).toNat [], some (i, made, bar))
/-- the first goal is begun: 1, 0, 2 as above, 3: what isn't a digit is compared -/
def mo_first (P : mo_P) (M : mo_M) : mo_R1 :=
  match M with
  | (st, came, sl, al, ar, V, [], cs, ans) => (1, (st, came, sl, al, ar, V, [], cs, ans), [], none)
  | (st, came, sl, al, ar, (made, bd, ch, ns, dn, an, aw), (s, l, r, b) :: todo, cs, ans) =>
    if 500 ≤ st then (2, (st, came, sl, al, ar, (made, bd, ch, ns, dn, an, aw), todo, cs, ans), [], none)
    else if s = 33 then (1, (st + 1, came, sl, al, ar, (made, bd, ch, ns, dn, an, aw), todo, cs.drop (cs.length - b.toNat), ans), [], none)
    else if s = 40 then
      (if mo_next P l 0 = -1 then (0, (st + 1, came, sl, al, ar, (made, bd, ch, ns, dn, an, aw), todo, cs, ans), [], none)
       else mo_ta P (st + 1, came, sl, al, ar, (made, bd, ch, ns, dn, an, aw), todo, (if mo_next P l (mo_next P l 0 + 1) = -1 then cs else (l, mo_next P l (mo_next P l 0 + 1), todo, (made, bd, ch, ns, dn, an, aw)) :: cs), ans) l (mo_next P l 0) cs.length)
    else if s = 61 then (1, (st + 1, came, sl, al, ar, (made, bd, ch, ns, dn, an, aw), todo, cs, ans), [(l, r)], none)
    else if s = 126 then (1, (st + 1, came, sl, mo_up al an l, mo_up ar an r, (made, bd, ch, ns, dn, an + 1, mo_uw aw an true), todo, cs, ans), [], none)
    else if s = 60 then
      (if 0 ≤ mo_val P.1 bd l ∧ 0 ≤ mo_val P.1 bd r ∧ (48 ≤ mo_l P.1 (mo_val P.1 bd l) ∧ mo_l P.1 (mo_val P.1 bd l) ≤ 57) ∧ 48 ≤ mo_l P.1 (mo_val P.1 bd r) ∧ mo_l P.1 (mo_val P.1 bd r) ≤ 57 then
        (if mo_l P.1 (mo_val P.1 bd l) < mo_l P.1 (mo_val P.1 bd r) then 1 else 0, (st + 1, came, sl, al, ar, (made, bd, ch, ns, dn, an, aw), todo, cs, ans), [], none)
       else (3, (st + 1, came, sl, al, ar, (made, bd, ch, ns, dn, an, aw), todo, cs, ans), [], none))
    else if mo_val P.1 bd l < 0 then (1, (st + 1, came, mo_up sl ns r, al, ar, (made, bd, mo_upc ch (-1 - mo_val P.1 bd l) (ch (-1 - mo_val P.1 bd l) ++ [ns]), ns + 1, dn, an, aw), todo, cs, ans), [], none)
    else (1, (st + 1, came, sl, al, ar, (made, bd, ch, ns, dn, an, aw), (40, r, r, 0) :: todo, cs, ans), [], none)
/-- back to the newest choice -/
def mo_bk (P : mo_P) (M : mo_M) : mo_R1 :=
  match M with
  | (st, came, sl, al, ar, V, todo, [], ans) => (0, (st, came, sl, al, ar, V, todo, [], ans), [], none)
  | (st, came, sl, al, ar, _, _, (t, i, todo, V) :: cs, ans) =>
    mo_ta P (st, came, sl, al, ar, V, todo, (if mo_next P t (i + 1) = -1 then cs else (t, mo_next P t (i + 1), todo, V) :: cs), ans) t i cs.length
def mo_an (M : mo_M) : Int := M.2.2.2.2.2.1.2.2.2.2.2.1
/-- one round -/
def mo_round (P : mo_P) (well : Bool) (M : mo_M) : Int × mo_M :=
  match (if well = true then mo_first P M else mo_bk P M) with
  | (c, M1, ps, tk) => if c = 1 then mo_fin P M1 ps (mo_bdy P tk) (mo_an M) else (c, M1)
/-- on, or back, to the next answer: 1 an answer, 0 none, 2, 3 as above, 9 not ended -/
def mo_seek (P : mo_P) : Nat → Bool → mo_M → Int × mo_M
  | 0, _, M => (9, M)
  | m + 1, well, M =>
    if well = true ∧ M.2.2.2.2.2.2.1 = [] then (1, (M.1, M.2.1, M.2.2.1, M.2.2.2.1, M.2.2.2.2.1, M.2.2.2.2.2.1, M.2.2.2.2.2.2.1, M.2.2.2.2.2.2.2.1, M.2.2.2.2.2.2.2.2 + 1))
    else if well = false ∧ M.2.2.2.2.2.2.2.1 = [] then (0, M)
    else match mo_round P well M with
      | (c, M') => if c = 1 then mo_seek P m true M' else if c = 0 then mo_seek P m false M' else (c, M')
