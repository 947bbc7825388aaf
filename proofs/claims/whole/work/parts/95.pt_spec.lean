/-! What a text that is read well is like. -/
/-- no two letters or digits stand side by side -/
def pt_na (h : Int → Int) (p p' : Int) : Prop := ∀ i, p ≤ i → i + 1 < p' → ¬ (pt_ch (h i) ∧ pt_ch (h (i + 1)))
theorem pt_na_join {h : Int → Int} {p q r : Int} (h1 : pt_na h p q) (h2 : pt_na h (q + 1) r) (hq : ¬ pt_ch (h q)) : pt_na h p r := by
  intro i i0 i1
  by_cases e1 : i + 1 < q
  · exact h1 i i0 e1
  by_cases e2 : i + 1 = q
  · rw [e2]
    exact fun z => hq z.2
  by_cases e3 : i = q
  · rw [e3]
    exact fun z => hq z.1
  · exact h2 i (by omega) i1
theorem pt_na_one {h : Int → Int} {p q : Int} (h1 : pt_na h p q) (hq : ¬ pt_ch (h q)) : pt_na h p (q + 1) := pt_na_join h1 (fun i a b => by omega) hq
theorem pt_a_na {h : Int → Int} {n : Int} (hn : ∀ p, n ≤ p → h p = 0) {rd : Int → Bool × Int × pt_N} (hrd : ∀ p, 0 ≤ p → p ≤ n → p ≤ (rd p).2.1 ∧ (rd p).2.1 ≤ n ∧ ((rd p).1 = true → pt_na h p (rd p).2.1)) :
    ∀ (r : Nat) (p : Int), 0 ≤ p → p ≤ n → (pt_a h rd r p).1 = true → pt_na h p (pt_a h rd r p).2.1
  | 0, p, h0, h1, z => absurd (show false = true from z) (by decide)
  | r + 1, p, h0, h1, z => by
    obtain ⟨k1, k2, k3⟩ := hrd p h0 h1
    unfold pt_a at z ⊢
    by_cases e1 : (rd p).1 = false
    · rw [if_pos e1] at z
      exact absurd (show false = true from z) (by decide)
    rw [if_neg e1] at z ⊢
    have k3 := k3 (by simpa using e1)
    by_cases e2 : h (rd p).2.1 = 41
    · rw [if_pos e2]
      exact pt_na_one k3 (by rw [e2]; decide)
    rw [if_neg e2] at z ⊢
    by_cases e3 : r = 0 ∨ h (rd p).2.1 ≠ 44
    · rw [if_pos e3] at z
      exact absurd (show false = true from z) (by decide)
    rw [if_neg e3] at z ⊢
    have e4 : h (rd p).2.1 = 44 := by omega
    have hlt : (rd p).2.1 < n := by
      by_cases w : n ≤ (rd p).2.1
      · have := hn _ w; omega
      · omega
    exact pt_na_join k3 (pt_a_na hn hrd r ((rd p).2.1 + 1) (by omega) (by omega) z) (by rw [e4]; decide)
theorem pt_t_na {h : Int → Int} {n : Int} (hn : ∀ p, n ≤ p → h p = 0) : ∀ (m : Nat) (p : Int), 0 ≤ p → p ≤ n → (pt_t h m p).1 = true → pt_na h p (pt_t h m p).2.1 := by
  intro m
  induction m with
  | zero =>
    intro p h0 h1 z
    unfold pt_t at z ⊢
    by_cases e1 : ¬ pt_ch (h p)
    · rw [if_pos e1] at z
      exact absurd (show false = true from z) (by decide)
    rw [if_neg e1] at z ⊢
    by_cases e2 : (97 ≤ h p ∧ h p ≤ 122) ∧ h (p + 1) = 40
    · rw [if_pos e2] at z
      exact absurd (show false = true from z) (by decide)
    rw [if_neg e2]
    intro i i0 i1
    simp only at i1
    omega
  | succ m ih =>
    intro p h0 h1 z
    unfold pt_t at z ⊢
    by_cases e1 : ¬ pt_ch (h p)
    · rw [if_pos e1] at z
      exact absurd (show false = true from z) (by decide)
    rw [if_neg e1] at z ⊢
    by_cases e2 : (97 ≤ h p ∧ h p ≤ 122) ∧ h (p + 1) = 40
    · rw [if_pos e2] at z ⊢
      have hl2 : p + 1 < n := by
        by_cases w : n ≤ p + 1
        · have := hn _ w; omega
        · omega
      have h1' : pt_na h p (p + 1) := fun i i0 i1 => by omega
      have h2' := pt_a_na hn (fun q q0 q1 => ⟨(pt_t_spec hn m q q0 q1).1, (pt_t_spec hn m q q0 q1).2.1, ih q q0 q1⟩) 3 (p + 2) (by omega) (by omega) z
      rw [show p + 2 = p + 1 + 1 by omega] at h2'
      have := pt_na_join h1' h2' (by rw [e2.2]; decide)
      rw [show p + 1 + 1 = p + 2 by omega] at this
      exact this
    rw [if_neg e2]
    intro i i0 i1
    simp only at i1
    omega
/-- a goal's terms are nodes -/
def pt_gk (N : pt_N) (g : Int × Int × Int) : Prop := g.1 = 33 ∨ ((g.1 = 40 ∨ g.1 = 61 ∨ g.1 = 126 ∨ g.1 = 60 ∨ g.1 = 63) ∧ (∃ as, (g.2.1, as) ∈ N) ∧ ∃ as, (g.2.2, as) ∈ N)
theorem pt_g_spec {h : Int → Int} {n : Int} (hn : ∀ p, n ≤ p → h p = 0) {p : Int} (h0 : 0 ≤ p) (h1 : p ≤ n) : p ≤ (pt_g h p).2.1 ∧ (pt_g h p).2.1 ≤ n ∧ ((pt_g h p).1 = true → p < (pt_g h p).2.1 ∧ pt_W (pt_g h p).2.2.2 p (pt_g h p).2.1 ∧ pt_na h p (pt_g h p).2.1 ∧ pt_gk (pt_g h p).2.2.2 (pt_g h p).2.2.1) := by
  have lt : ∀ q, h q ≠ 0 → q < n := fun q z => by
    by_cases w : n ≤ q
    · exact absurd (hn _ w) z
    · omega
  unfold pt_g
  by_cases e1 : h p = 33
  · rw [if_pos e1]
    have := lt p (by omega)
    exact ⟨show p ≤ p + 1 by omega, show p + 1 ≤ n by omega, fun _ => ⟨show p < p + 1 by omega, fun q as hm => (nomatch hm), fun i i0 i1 => by simp only at i1; omega, .inl rfl⟩⟩
  rw [if_neg e1]
  obtain ⟨k1, k2, k3⟩ := pt_t_spec hn 5 p h0 h1
  have k7 := pt_t_na hn 5 p h0 h1
  generalize pt_t h 5 p = T at k1 k2 k3 k7
  obtain ⟨ok, p1, N1⟩ := T
  simp only at k1 k2 k3 k7 ⊢
  cases ok with
  | false =>
    rw [if_pos rfl]
    exact ⟨k1, k2, fun z => absurd (show false = true from z) (by decide)⟩
  | true =>
    rw [if_neg (show ¬ (true = false) by decide)]
    obtain ⟨k4, k5, k6⟩ := k3 rfl
    have k7 := k7 rfl
    by_cases e2 : (97 ≤ h p ∧ h p ≤ 122) ∧ (h p1 = 0 ∨ h p1 = 44)
    · rw [if_pos e2]
      exact ⟨k1, k2, fun _ => ⟨k4, k5, k7, .inr ⟨.inl rfl, k6, k6⟩⟩⟩
    rw [if_neg e2]
    by_cases e3 : ¬ (h p1 = 61 ∨ h p1 = 126 ∨ h p1 = 60 ∨ h p1 = 63)
    · rw [if_pos e3]
      exact ⟨k1, k2, fun z => absurd (show false = true from z) (by decide)⟩
    rw [if_neg e3]
    have hlt := lt p1 (by omega)
    by_cases e4 : h p1 = 63 ∧ ¬ (97 ≤ h (p1 + 1) ∧ h (p1 + 1) ≤ 122)
    · rw [if_pos e4]
      exact ⟨show p ≤ p1 + 1 by omega, show p1 + 1 ≤ n by omega, fun z => absurd (show false = true from z) (by decide)⟩
    rw [if_neg e4]
    obtain ⟨j1, j2, j3⟩ := pt_t_spec hn 5 (p1 + 1) (by omega) (by omega)
    have j7 := pt_t_na hn 5 (p1 + 1) (by omega) (by omega)
    generalize pt_t h 5 (p1 + 1) = T at j1 j2 j3 j7
    obtain ⟨ok, p2, N2⟩ := T
    simp only at j1 j2 j3 j7 ⊢
    refine ⟨by omega, j2, fun z => ?_⟩
    subst z
    obtain ⟨j4, j5, as2, j6⟩ := j3 rfl
    obtain ⟨as1, k6⟩ := k6
    refine ⟨by omega, pt_W_app k5 j5 (by omega) (by omega), pt_na_join k7 (j7 rfl) (fun z => ?_), .inr ⟨by simp only; omega, ⟨as1, List.mem_append.mpr (.inl k6)⟩, as2, List.mem_append.mpr (.inr j6)⟩⟩
    unfold pt_ch at z
    omega
theorem pt_gk_app {N N' : pt_N} {g : Int × Int × Int} (h : pt_gk N g ∨ pt_gk N' g) : pt_gk (N ++ N') g := by
  rcases h with h | h
  · rcases h with z | ⟨z1, ⟨a, z2⟩, b, z3⟩
    · exact .inl z
    · exact .inr ⟨z1, ⟨a, List.mem_append.mpr (.inl z2)⟩, b, List.mem_append.mpr (.inl z3)⟩
  · rcases h with z | ⟨z1, ⟨a, z2⟩, b, z3⟩
    · exact .inl z
    · exact .inr ⟨z1, ⟨a, List.mem_append.mpr (.inr z2)⟩, b, List.mem_append.mpr (.inr z3)⟩
theorem pt_gs_spec {h : Int → Int} {n : Int} (hn : ∀ p, n ≤ p → h p = 0) : ∀ (m : Nat) (p : Int), 0 ≤ p → p ≤ n → p ≤ (pt_gs h m p).2.1 ∧ (pt_gs h m p).2.1 ≤ n ∧ (pt_gs h m p).2.2.1.length ≤ m ∧ ((pt_gs h m p).1 = true → p < (pt_gs h m p).2.1 ∧ h (pt_gs h m p).2.1 = 0 ∧ pt_W (pt_gs h m p).2.2.2 p (pt_gs h m p).2.1 ∧ pt_na h p (pt_gs h m p).2.1 ∧ ∀ g ∈ (pt_gs h m p).2.2.1, pt_gk (pt_gs h m p).2.2.2 g) := by
  have lt : ∀ q, h q ≠ 0 → q < n := fun q z => by
    by_cases w : n ≤ q
    · exact absurd (hn _ w) z
    · omega
  intro m
  induction m with
  | zero =>
    intro p h0 h1
    exact ⟨Int.le_refl _, h1, Nat.le_refl _, fun z => absurd (show false = true from z) (by decide)⟩
  | succ m ih =>
    intro p h0 h1
    unfold pt_gs
    obtain ⟨k1, k2, k3⟩ := pt_g_spec hn h0 h1
    generalize pt_g h p = T at k1 k2 k3
    obtain ⟨ok, p1, g1, N1⟩ := T
    simp only at k1 k2 k3 ⊢
    cases ok with
    | false =>
      rw [if_pos rfl]
      exact ⟨k1, k2, Nat.zero_le _, fun z => absurd (show false = true from z) (by decide)⟩
    | true =>
      rw [if_neg (show ¬ (true = false) by decide)]
      obtain ⟨k4, k5, k6, k7⟩ := k3 rfl
      by_cases e1 : h p1 = 0
      · rw [if_pos e1]
        refine ⟨k1, k2, by simp, fun _ => ⟨k4, e1, k5, k6, fun g hg => ?_⟩⟩
        rw [List.mem_singleton.mp hg]
        exact k7
      rw [if_neg e1]
      by_cases e2 : h p1 ≠ 44
      · rw [if_pos e2]
        exact ⟨k1, k2, Nat.zero_le _, fun z => absurd (show false = true from z) (by decide)⟩
      rw [if_neg e2]
      have hlt := lt p1 e1
      obtain ⟨j1, j2, j3, j4⟩ := ih (p1 + 1) (by omega) (by omega)
      generalize pt_gs h m (p1 + 1) = T at j1 j2 j3 j4
      obtain ⟨ok, p2, gs, N2⟩ := T
      simp only at j1 j2 j3 j4 ⊢
      refine ⟨by omega, j2, by rw [List.length_cons]; omega, fun z => ?_⟩
      obtain ⟨j5, j6, j7, j8, j9⟩ := j4 z
      refine ⟨by omega, j6, pt_W_app k5 j7 (by omega) (by omega), pt_na_join k6 j8 (fun w => ?_), fun g hg => ?_⟩
      · unfold pt_ch at w
        omega
      · rcases List.mem_cons.mp hg with y | y
        · rw [y]
          exact pt_gk_app (.inl k7)
        · exact pt_gk_app (.inr (j9 g y))
theorem pt_c_spec {h : Int → Int} {n : Int} (hn : ∀ p, n ≤ p → h p = 0) (h1 : 0 ≤ n) : 0 ≤ (pt_c h).2.1 ∧ (pt_c h).2.1 ≤ n ∧ (pt_c h).2.2.1.length ≤ 24 ∧ ((pt_c h).1 = true → 0 < (pt_c h).2.1 ∧ h (pt_c h).2.1 = 0 ∧ pt_W (pt_c h).2.2.2 0 (pt_c h).2.1 ∧ pt_na h 0 (pt_c h).2.1 ∧ (∀ g ∈ (pt_c h).2.2.1, pt_gk (pt_c h).2.2.2 g) ∧ (∃ as, (0, as) ∈ (pt_c h).2.2.2) ∧ 97 ≤ h 0 ∧ h 0 ≤ 122) := by
  have lt : ∀ q, h q ≠ 0 → q < n := fun q z => by
    by_cases w : n ≤ q
    · exact absurd (hn _ w) z
    · omega
  unfold pt_c
  by_cases e0 : ¬ (97 ≤ h 0 ∧ h 0 ≤ 122)
  · rw [if_pos e0]
    exact ⟨Int.le_refl _, h1, Nat.zero_le _, fun z => absurd (show false = true from z) (by decide)⟩
  rw [if_neg e0]
  have e0 := Decidable.not_not.mp e0
  obtain ⟨k1, k2, k3⟩ := pt_t_spec hn 5 0 (Int.le_refl _) h1
  have k7 := pt_t_na hn 5 0 (Int.le_refl _) h1
  generalize pt_t h 5 0 = T at k1 k2 k3 k7
  obtain ⟨ok, p1, N1⟩ := T
  simp only at k1 k2 k3 k7 ⊢
  cases ok with
  | false =>
    rw [if_pos rfl]
    exact ⟨k1, k2, Nat.zero_le _, fun z => absurd (show false = true from z) (by decide)⟩
  | true =>
    rw [if_neg (show ¬ (true = false) by decide)]
    obtain ⟨k4, k5, as, k6⟩ := k3 rfl
    have k7 := k7 rfl
    by_cases e1 : h p1 = 0
    · rw [if_pos e1]
      exact ⟨k1, k2, Nat.zero_le _, fun _ => ⟨k4, e1, k5, k7, fun g hg => (nomatch hg), ⟨as, k6⟩, e0⟩⟩
    rw [if_neg e1]
    by_cases e2 : h p1 ≠ 58
    · rw [if_pos e2]
      exact ⟨k1, k2, Nat.zero_le _, fun z => absurd (show false = true from z) (by decide)⟩
    rw [if_neg e2]
    have hlt := lt p1 e1
    obtain ⟨j1, j2, j3, j4⟩ := pt_gs_spec hn 24 (p1 + 1) (by omega) (by omega)
    generalize pt_gs h 24 (p1 + 1) = T at j1 j2 j3 j4
    obtain ⟨ok, p2, gs, N2⟩ := T
    simp only at j1 j2 j3 j4 ⊢
    refine ⟨by omega, j2, j3, fun z => ?_⟩
    obtain ⟨j5, j6, j7, j8, j9⟩ := j4 z
    refine ⟨by omega, j6, pt_W_app k5 j7 (by omega) (by omega), pt_na_join k7 j8 (fun w => ?_), fun g hg => pt_gk_app (.inr (j9 g hg)), ⟨as, List.mem_append.mpr (.inl k6)⟩, e0⟩
    unfold pt_ch at w
    omega
/-! The variables of a text. -/
/-- the letter 65 + v stands in it, before n -/
def pv_oc (h : Int → Int) : Nat → Nat → Bool
  | 0, _ => false
  | n + 1, v => pv_oc h n v || decide (h n = 65 + v)
/-- how many such letters are below v -/
def pv_k (h : Int → Int) (n : Nat) : Nat → Int
  | 0 => 0
  | v + 1 => pv_k h n v + (if pv_oc h n v = true then 1 else 0)
def pv_r (h : Int → Int) (n v : Nat) : Int := if pv_oc h n v = true then pv_k h n v else -1
theorem pv_oc_iff {h : Int → Int} {v : Nat} : ∀ {n : Nat}, pv_oc h n v = true ↔ ∃ i : Nat, i < n ∧ h i = 65 + v
  | 0 => ⟨fun z => absurd (show false = true from z) (by decide), fun ⟨i, z, _⟩ => by omega⟩
  | n + 1 => by
    unfold pv_oc
    rw [Bool.or_eq_true, decide_eq_true_eq, pv_oc_iff]
    constructor
    · rintro (⟨i, a, b⟩ | z)
      · exact ⟨i, by omega, b⟩
      · exact ⟨n, by omega, z⟩
    · rintro ⟨i, a, b⟩
      by_cases e : i = n
      · exact .inr (by rw [← e]; exact b)
      · exact .inl ⟨i, by omega, b⟩
theorem pv_k_r {h : Int → Int} {n : Nat} : ∀ (v : Nat), 0 ≤ pv_k h n v ∧ pv_k h n v ≤ v
  | 0 => ⟨Int.le_refl _, Int.le_refl _⟩
  | v + 1 => by
    have := pv_k_r (h := h) (n := n) v
    unfold pv_k
    split <;> omega
theorem pv_k_mono {h : Int → Int} {n v : Nat} : ∀ (k : Nat), pv_k h n v ≤ pv_k h n (v + k)
  | 0 => Int.le_refl _
  | k + 1 => by
    have := pv_k_mono (h := h) (n := n) (v := v) k
    show pv_k h n v ≤ pv_k h n (v + k) + (if pv_oc h n (v + k) = true then 1 else 0)
    split <;> omega
theorem pv_r_lt {h : Int → Int} {n v : Nat} (hv : v < 26) (ho : pv_oc h n v = true) : 0 ≤ pv_r h n v ∧ pv_r h n v < pv_k h n 26 := by
  unfold pv_r
  rw [if_pos ho]
  refine ⟨(pv_k_r v).1, ?_⟩
  have h1 : pv_k h n (v + 1) = pv_k h n v + 1 := by
    show pv_k h n v + (if pv_oc h n v = true then 1 else 0) = _
    rw [if_pos ho]
  have h2 := pv_k_mono (h := h) (n := n) (v := v + 1) (26 - (v + 1))
  rw [show v + 1 + (26 - (v + 1)) = 26 by omega] at h2
  omega
/-- how many letters and digits -/
def pv_c (h : Int → Int) : Nat → Int
  | 0 => 0
  | n + 1 => pv_c h n + (if pt_ch (h n) then 1 else 0)
theorem pv_k_c {h : Int → Int} : ∀ (n : Nat), pv_k h n 26 ≤ pv_c h n
  | 0 => by
    have : ∀ v, pv_k h 0 v = 0 := fun v => by
      induction v with
      | zero => rfl
      | succ v ih =>
        show pv_k h 0 v + (if false = true then 1 else 0) = 0
        rw [ih, if_neg (by decide)]
        rfl
    rw [this]
    exact Int.le_refl _
  | n + 1 => by
    have ih := pv_k_c (h := h) n
    have step : ∀ v : Nat, pv_k h (n + 1) v ≤ pv_k h n v + (if 65 ≤ h n ∧ h n < 65 + v then 1 else 0) := fun v => by
      induction v with
      | zero =>
        show (0 : Int) ≤ 0 + _
        split <;> omega
      | succ v iv =>
        have a1 : pv_k h (n + 1) (v + 1) = pv_k h (n + 1) v + (if (pv_oc h n v || decide (h n = 65 + v)) = true then 1 else 0) := rfl
        have a2 : pv_k h n (v + 1) = pv_k h n v + (if pv_oc h n v = true then 1 else 0) := rfl
        rw [a1, a2]
        cases ho : pv_oc h n v with
        | true =>
          rw [Bool.true_or, if_pos rfl]
          have : (if 65 ≤ h n ∧ h n < 65 + (v : Int) then (1 : Int) else 0) ≤ (if 65 ≤ h n ∧ h n < 65 + ((v + 1 : Nat) : Int) then 1 else 0) := by
            split
            · rw [if_pos (by omega)]
              omega
            · split <;> omega
          omega
        | false =>
          rw [Bool.false_or, if_neg (show ¬ (false = true) by decide)]
          by_cases e : h n = 65 + v
          · rw [if_pos (by simpa using e), if_pos (by omega)]
            rw [if_neg (by omega)] at iv
            omega
          · rw [if_neg (by simpa using e)]
            have : (if 65 ≤ h n ∧ h n < 65 + (v : Int) then (1 : Int) else 0) ≤ (if 65 ≤ h n ∧ h n < 65 + ((v + 1 : Nat) : Int) then 1 else 0) := by
              split
              · rw [if_pos (by omega)]
                omega
              · split <;> omega
            omega
    have := step 26
    show pv_k h (n + 1) 26 ≤ pv_c h n + (if pt_ch (h n) then 1 else 0)
    by_cases e : 65 ≤ h n ∧ h n < 65 + ((26 : Nat) : Int)
    · rw [if_pos e] at this
      rw [if_pos (.inl (by omega))]
      omega
    · rw [if_neg e] at this
      split <;> omega
theorem pv_c_half {h : Int → Int} {n : Nat} (hna : pt_na h 0 n) : ∀ (k m : Nat), m = 2 * k ∨ m = 2 * k + 1 → m ≤ n → 2 * pv_c h m ≤ m + 1 := by
  intro k
  induction k with
  | zero =>
    intro m hm hmn
    rcases hm with rfl | rfl
    · show (2 : Int) * 0 ≤ 0 + 1
      decide
    · show 2 * (0 + (if pt_ch (h (0 : Nat)) then 1 else 0)) ≤ ((1 : Nat) : Int) + 1
      split <;> omega
  | succ k ih =>
    intro m hm hmn
    obtain ⟨q, rfl⟩ : ∃ q, m = q + 2 := ⟨m - 2, by omega⟩
    have hq := ih q (by omega) (by omega)
    have e : pv_c h (q + 2) = pv_c h q + (if pt_ch (h q) then 1 else 0) + (if pt_ch (h ((q + 1 : Nat) : Int)) then 1 else 0) := rfl
    have hno := hna q (by omega) (by omega)
    rw [e]
    rw [show ((q + 1 : Nat) : Int) = (q : Int) + 1 by omega]
    by_cases e1 : pt_ch (h q)
    · by_cases e2 : pt_ch (h (q + 1))
      · exact absurd ⟨e1, e2⟩ hno
      · rw [if_pos e1, if_neg e2]
        omega
    · rw [if_neg e1]
      split <;> omega
theorem pv_24 {h : Int → Int} {n : Nat} (hna : pt_na h 0 n) (hn : n ≤ 48) : pv_k h n 26 ≤ 24 := by
  have h1 := pv_k_c (h := h) n
  have h2 := pv_c_half hna (n / 2) n (by omega) (Nat.le_refl _)
  omega
