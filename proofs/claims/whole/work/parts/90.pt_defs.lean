/-! READING A TEXT, as mathematics. h is the text, 0 behind its end. A node is where a term begins, with where its arguments begin. -/
abbrev pt_N : Type := List (Int × List Int)
abbrev pt_ch (c : Int) : Prop := (65 ≤ c ∧ c ≤ 90) ∨ (48 ≤ c ∧ c ≤ 57) ∨ (97 ≤ c ∧ c ≤ 122)
/-- arguments: r more may come -/
def pt_a (h : Int → Int) (rd : Int → Bool × Int × pt_N) : Nat → Int → Bool × Int × List Int × pt_N
  | 0, p => (false, p, [], [])
  | r + 1, p => if (rd p).1 = false then (false, (rd p).2.1, [p], (rd p).2.2)
    else if h (rd p).2.1 = 41 then (true, (rd p).2.1 + 1, [p], (rd p).2.2)
    else if r = 0 ∨ h (rd p).2.1 ≠ 44 then (false, (rd p).2.1, [p], (rd p).2.2)
    else ((pt_a h rd r ((rd p).2.1 + 1)).1, (pt_a h rd r ((rd p).2.1 + 1)).2.1, p :: (pt_a h rd r ((rd p).2.1 + 1)).2.2.1, (rd p).2.2 ++ (pt_a h rd r ((rd p).2.1 + 1)).2.2.2)
/-- a term: m levels may still open -/
def pt_t (h : Int → Int) : Nat → Int → Bool × Int × pt_N
  | 0, p => if ¬ pt_ch (h p) then (false, p, []) else if (97 ≤ h p ∧ h p ≤ 122) ∧ h (p + 1) = 40 then (false, p + 1, []) else (true, p + 1, [(p, [])])
  | m + 1, p => if ¬ pt_ch (h p) then (false, p, []) else if (97 ≤ h p ∧ h p ≤ 122) ∧ h (p + 1) = 40 then ((pt_a h (pt_t h m) 3 (p + 2)).1, (pt_a h (pt_t h m) 3 (p + 2)).2.1, (p, (pt_a h (pt_t h m) 3 (p + 2)).2.2.1) :: (pt_a h (pt_t h m) 3 (p + 2)).2.2.2) else (true, p + 1, [(p, [])])
/-- a goal: sign, left, right -/
def pt_g (h : Int → Int) (p : Int) : Bool × Int × (Int × Int × Int) × pt_N :=
  if h p = 33 then (true, p + 1, (33, 0, 0), [])
  else if (pt_t h 5 p).1 = false then (false, (pt_t h 5 p).2.1, (0, 0, 0), (pt_t h 5 p).2.2)
  else if (97 ≤ h p ∧ h p ≤ 122) ∧ (h (pt_t h 5 p).2.1 = 0 ∨ h (pt_t h 5 p).2.1 = 44) then (true, (pt_t h 5 p).2.1, (40, p, p), (pt_t h 5 p).2.2)
  else if ¬ (h (pt_t h 5 p).2.1 = 61 ∨ h (pt_t h 5 p).2.1 = 126 ∨ h (pt_t h 5 p).2.1 = 60 ∨ h (pt_t h 5 p).2.1 = 63) then (false, (pt_t h 5 p).2.1, (0, 0, 0), (pt_t h 5 p).2.2)
  else if h (pt_t h 5 p).2.1 = 63 ∧ ¬ (97 ≤ h ((pt_t h 5 p).2.1 + 1) ∧ h ((pt_t h 5 p).2.1 + 1) ≤ 122) then (false, (pt_t h 5 p).2.1 + 1, (0, 0, 0), (pt_t h 5 p).2.2)
  else ((pt_t h 5 ((pt_t h 5 p).2.1 + 1)).1, (pt_t h 5 ((pt_t h 5 p).2.1 + 1)).2.1, (h (pt_t h 5 p).2.1, p, (pt_t h 5 p).2.1 + 1), (pt_t h 5 p).2.2 ++ (pt_t h 5 ((pt_t h 5 p).2.1 + 1)).2.2)
/-- goals, m at most -/
def pt_gs (h : Int → Int) : Nat → Int → Bool × Int × List (Int × Int × Int) × pt_N
  | 0, p => (false, p, [], [])
  | m + 1, p => if (pt_g h p).1 = false then (false, (pt_g h p).2.1, [], (pt_g h p).2.2.2)
    else if h (pt_g h p).2.1 = 0 then (true, (pt_g h p).2.1, [(pt_g h p).2.2.1], (pt_g h p).2.2.2)
    else if h (pt_g h p).2.1 ≠ 44 then (false, (pt_g h p).2.1, [], (pt_g h p).2.2.2)
    else ((pt_gs h m ((pt_g h p).2.1 + 1)).1, (pt_gs h m ((pt_g h p).2.1 + 1)).2.1, (pt_g h p).2.2.1 :: (pt_gs h m ((pt_g h p).2.1 + 1)).2.2.1, (pt_g h p).2.2.2 ++ (pt_gs h m ((pt_g h p).2.1 + 1)).2.2.2)
/-- a clause -/
def pt_c (h : Int → Int) : Bool × Int × List (Int × Int × Int) × pt_N :=
  if ¬ (97 ≤ h 0 ∧ h 0 ≤ 122) then (false, 0, [], [])
  else if (pt_t h 5 0).1 = false then (false, (pt_t h 5 0).2.1, [], (pt_t h 5 0).2.2)
  else if h (pt_t h 5 0).2.1 = 0 then (true, (pt_t h 5 0).2.1, [], (pt_t h 5 0).2.2)
  else if h (pt_t h 5 0).2.1 ≠ 58 then (false, (pt_t h 5 0).2.1, [], (pt_t h 5 0).2.2)
  else ((pt_gs h 24 ((pt_t h 5 0).2.1 + 1)).1, (pt_gs h 24 ((pt_t h 5 0).2.1 + 1)).2.1, (pt_gs h 24 ((pt_t h 5 0).2.1 + 1)).2.2.1, (pt_t h 5 0).2.2 ++ (pt_gs h 24 ((pt_t h 5 0).2.1 + 1)).2.2.2)
/-- all nodes lie from p on and before p', and those that arguments name are among them -/
def pt_W (N : pt_N) (p p' : Int) : Prop := ∀ q as, (q, as) ∈ N → (p ≤ q ∧ q < p') ∧ as.length ≤ 3 ∧ ∀ a ∈ as, ∃ bs, (a, bs) ∈ N
theorem pt_W_app {N N' : pt_N} {p q r s : Int} (h : pt_W N p q) (h' : pt_W N' r s) (h1 : p ≤ r) (h2 : q ≤ s) : pt_W (N ++ N') p s := by
  intro x as hm
  rcases List.mem_append.mp hm with z | z
  · obtain ⟨a1, a2, a3⟩ := h x as z
    exact ⟨by omega, a2, fun a ha => by obtain ⟨bs, hb⟩ := a3 a ha; exact ⟨bs, List.mem_append.mpr (.inl hb)⟩⟩
  · obtain ⟨a1, a2, a3⟩ := h' x as z
    exact ⟨by omega, a2, fun a ha => by obtain ⟨bs, hb⟩ := a3 a ha; exact ⟨bs, List.mem_append.mpr (.inr hb)⟩⟩
theorem pt_a_spec {h : Int → Int} {n : Int} (hn : ∀ p, n ≤ p → h p = 0) {rd : Int → Bool × Int × pt_N} (hrd : ∀ p, 0 ≤ p → p ≤ n → p ≤ (rd p).2.1 ∧ (rd p).2.1 ≤ n ∧ ((rd p).1 = true → p < (rd p).2.1 ∧ pt_W (rd p).2.2 p (rd p).2.1 ∧ ∃ as, (p, as) ∈ (rd p).2.2)) :
    ∀ (r : Nat) (p : Int), 0 ≤ p → p ≤ n → p ≤ (pt_a h rd r p).2.1 ∧ (pt_a h rd r p).2.1 ≤ n ∧ (pt_a h rd r p).2.2.1.length ≤ r ∧ ((pt_a h rd r p).1 = true → p < (pt_a h rd r p).2.1 ∧ pt_W (pt_a h rd r p).2.2.2 p (pt_a h rd r p).2.1 ∧ (∀ a ∈ (pt_a h rd r p).2.2.1, ∃ bs, (a, bs) ∈ (pt_a h rd r p).2.2.2) ∧ (pt_a h rd r p).2.2.1 ≠ [])
  | 0, p, h0, h1 => ⟨Int.le_refl _, h1, Nat.le_refl _, fun z => absurd (show false = true from z) (by decide)⟩
  | r + 1, p, h0, h1 => by
    obtain ⟨k1, k2, k3⟩ := hrd p h0 h1
    unfold pt_a
    by_cases e1 : (rd p).1 = false
    · rw [if_pos e1]
      exact ⟨k1, k2, by simp, fun z => absurd (show false = true from z) (by decide)⟩
    rw [if_neg e1]
    obtain ⟨k4, k5, k6⟩ := k3 (by simpa using e1)
    by_cases e2 : h (rd p).2.1 = 41
    · rw [if_pos e2]
      have : (rd p).2.1 < n := by
        by_cases z : n ≤ (rd p).2.1
        · have := hn _ z; omega
        · omega
      refine ⟨show p ≤ (rd p).2.1 + 1 by omega, show (rd p).2.1 + 1 ≤ n by omega, by simp, fun _ => ⟨show p < (rd p).2.1 + 1 by omega, fun q as hm => ?_, fun a ha => ?_, by simp⟩⟩
      · obtain ⟨a1, a2, a3⟩ := k5 q as hm
        exact ⟨⟨a1.1, show q < (rd p).2.1 + 1 by omega⟩, a2, a3⟩
      · rw [List.mem_singleton.mp ha]
        exact k6
    rw [if_neg e2]
    by_cases e3 : r = 0 ∨ h (rd p).2.1 ≠ 44
    · rw [if_pos e3]
      exact ⟨k1, k2, by simp, fun z => absurd (show false = true from z) (by decide)⟩
    rw [if_neg e3]
    have hlt : (rd p).2.1 < n := by
      by_cases z : n ≤ (rd p).2.1
      · have := hn _ z; omega
      · omega
    obtain ⟨j1, j2, j3, j4⟩ := pt_a_spec hn hrd r ((rd p).2.1 + 1) (by omega) (by omega)
    refine ⟨by show p ≤ (pt_a h rd r ((rd p).2.1 + 1)).2.1; omega, j2, by simp only [List.length_cons]; omega, fun z => ?_⟩
    obtain ⟨j5, j6, j7, j8⟩ := j4 z
    refine ⟨by show p < (pt_a h rd r ((rd p).2.1 + 1)).2.1; omega, pt_W_app k5 j6 (by omega) (show (rd p).2.1 ≤ (pt_a h rd r ((rd p).2.1 + 1)).2.1 by omega), fun a ha => ?_, by simp⟩
    rcases List.mem_cons.mp ha with y | y
    · obtain ⟨as, hm⟩ := k6
      exact ⟨as, List.mem_append.mpr (.inl (by rw [y]; exact hm))⟩
    · obtain ⟨bs, hm⟩ := j7 a y
      exact ⟨bs, List.mem_append.mpr (.inr hm)⟩
theorem pt_t_spec {h : Int → Int} {n : Int} (hn : ∀ p, n ≤ p → h p = 0) : ∀ (m : Nat) (p : Int), 0 ≤ p → p ≤ n → p ≤ (pt_t h m p).2.1 ∧ (pt_t h m p).2.1 ≤ n ∧ ((pt_t h m p).1 = true → p < (pt_t h m p).2.1 ∧ pt_W (pt_t h m p).2.2 p (pt_t h m p).2.1 ∧ ∃ as, (p, as) ∈ (pt_t h m p).2.2) := by
  have hlt : ∀ p, pt_ch (h p) → p < n := fun p hc => by
    by_cases z : n ≤ p
    · rw [hn p z] at hc
      unfold pt_ch at hc
      omega
    · omega
  have leaf : ∀ p, 0 ≤ p → pt_ch (h p) → p ≤ p + 1 ∧ p + 1 ≤ n ∧ (true = true → p < p + 1 ∧ pt_W [(p, [])] p (p + 1) ∧ ∃ as, (p, as) ∈ [((p, []) : Int × List Int)]) := fun p h0 hc => by
    have := hlt p hc
    refine ⟨by omega, by omega, fun _ => ⟨by omega, fun q as hm => ?_, [], List.mem_singleton.mpr rfl⟩⟩
    cases List.mem_singleton.mp hm
    exact ⟨by omega, by simp, fun a ha => (nomatch ha)⟩
  intro m
  induction m with
  | zero =>
    intro p h0 h1
    unfold pt_t
    by_cases e1 : ¬ pt_ch (h p)
    · rw [if_pos e1]
      exact ⟨Int.le_refl _, h1, fun z => absurd (show false = true from z) (by decide)⟩
    rw [if_neg e1]
    have := hlt p (Decidable.not_not.mp e1)
    by_cases e2 : (97 ≤ h p ∧ h p ≤ 122) ∧ h (p + 1) = 40
    · rw [if_pos e2]
      exact ⟨show p ≤ p + 1 by omega, show p + 1 ≤ n by omega, fun z => absurd (show false = true from z) (by decide)⟩
    rw [if_neg e2]
    exact leaf p h0 (Decidable.not_not.mp e1)
  | succ m ih =>
    intro p h0 h1
    unfold pt_t
    by_cases e1 : ¬ pt_ch (h p)
    · rw [if_pos e1]
      exact ⟨Int.le_refl _, h1, fun z => absurd (show false = true from z) (by decide)⟩
    rw [if_neg e1]
    have := hlt p (Decidable.not_not.mp e1)
    by_cases e2 : (97 ≤ h p ∧ h p ≤ 122) ∧ h (p + 1) = 40
    · rw [if_pos e2]
      have hl2 : p + 1 < n := by
        by_cases z : n ≤ p + 1
        · have := hn _ z; omega
        · omega
      obtain ⟨j1, j2, j3, j4⟩ := pt_a_spec hn ih 3 (p + 2) (by omega) (by omega)
      refine ⟨by show p ≤ (pt_a h (pt_t h m) 3 (p + 2)).2.1; omega, j2, fun z => ?_⟩
      obtain ⟨j5, j6, j7, j8⟩ := j4 z
      refine ⟨by show p < (pt_a h (pt_t h m) 3 (p + 2)).2.1; omega, fun q as hm => ?_, ⟨_, List.mem_cons_self⟩⟩
      rcases List.mem_cons.mp hm with y | y
      · cases y
        exact ⟨⟨Int.le_refl _, by show p < (pt_a h (pt_t h m) 3 (p + 2)).2.1; omega⟩, j3, fun a ha => by obtain ⟨bs, hb⟩ := j7 a ha; exact ⟨bs, List.mem_cons_of_mem _ hb⟩⟩
      · obtain ⟨a1, a2, a3⟩ := j6 q as y
        exact ⟨⟨by omega, a1.2⟩, a2, fun a ha => by obtain ⟨bs, hb⟩ := a3 a ha; exact ⟨bs, List.mem_cons_of_mem _ hb⟩⟩
    rw [if_neg e2]
    exact leaf p h0 (Decidable.not_not.mp e1)
