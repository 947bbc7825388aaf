/-! Runs of the typed machine, with as much fuel as it takes. -/
theorem ai_run_fuel {P : ai_P} {L : Nat} {xs : Nat → Int32} {call call' : Nat → List ai_V → ai_H → Option (ai_O × ai_H)} (hc : ∀ mi av h r, call mi av h = some r → call' mi av h = some r) {mi : Nat} :
    ∀ n n' pc ls st h r, n ≤ n' → ai_run P L xs call mi n pc ls st h = some r → ai_run P L xs call' mi n' pc ls st h = some r := by
  intro n
  induction n with
  | zero => intro n' pc ls st h r _ hr; cases hr
  | succ n ih =>
    intro n' pc ls st h r hn hr
    cases n' with
    | zero => omega
    | succ m =>
      have hm : n ≤ m := by omega
      unfold ai_run at hr ⊢
      split at hr
      · cases hr
      · rename_i kd ins ks hrow
        split at hr
        · split at hr
          · rename_i hp
            try simp only [hp]
            exact ih _ _ _ _ _ _ hm hr
          · cases hr
        · split at hr
          · rename_i hp
            try simp only [hp]
            exact ih _ _ _ _ _ _ hm hr
          · cases hr
        · split at hr
          · rename_i hp
            try simp only [hp]
            exact ih _ _ _ _ _ _ hm hr
          · cases hr
        · split at hr
          · rename_i hp
            try simp only [hp]
            exact ih _ _ _ _ _ _ hm hr
          · cases hr
        · split at hr
          · rename_i hp
            try simp only [hp]
            split at hr
            · rename_i hh
              simp only [hc _ _ _ _ hh]
              exact ih _ _ _ _ _ _ hm hr
            · rename_i hh
              simp only [hc _ _ _ _ hh]
              split at hr
              · rename_i hx
                try simp only [hx]
                split at hr
                · rename_i hy
                  try rw [if_pos hy]
                  exact ih _ _ _ _ _ _ hm hr
                · cases hr
              · rename_i hx
                try simp only [hx]
                exact hr
              · cases hr
            · cases hr
          · cases hr
        · exact hr
        · exact hr
        · split at hr
          · split at hr
            · rename_i hy
              try rw [if_pos hy]
              exact ih _ _ _ _ _ _ hm hr
            · cases hr
          · cases hr
        · split at hr
          · split at hr
            · rename_i hy
              try rw [if_pos hy]
              exact ih _ _ _ _ _ _ hm hr
            · cases hr
          · cases hr
        · split at hr
          · split at hr
            · rename_i hy
              try rw [if_pos hy]
              exact ih _ _ _ _ _ _ hm hr
            · cases hr
          · cases hr
        · split at hr
          · rename_i hp
            try simp only [hp]
            exact ih _ _ _ _ _ _ hm hr
          · cases hr
        · cases hr
theorem ai_call_fuel {P : ai_P} {L : Nat} {xs : Nat → Int32} : ∀ d d' N N' mi av h r, d ≤ d' → N ≤ N' → ai_call P L xs N d mi av h = some r → ai_call P L xs N' d' mi av h = some r := by
  intro d
  induction d with
  | zero => intro d' N N' mi av h r _ _ hr; cases hr
  | succ d ih =>
    intro d' N N' mi av h r hd hN hr
    cases d' with
    | zero => omega
    | succ e =>
      unfold ai_call at hr ⊢
      split at hr
      · rename_i hl
        rw [if_pos hl]
        exact ai_run_fuel (fun mi av h r z => ih e N N' mi av h r (by omega) hN z) _ _ _ _ _ _ _ hN hr
      · cases hr
def ty_W (L : Nat) (xs : Nat → Int32) (d mi pc : Nat) (ls : ai_L) (st : List ai_V) (S : ty_S) (Q : ai_O → ty_S → Prop) : Prop :=
  ∃ (N n : Nat) (o : ai_O) (S' : ty_S), ai_run gt_P L xs (ai_call gt_P L xs N d) mi n pc ls st (ty_H S) = some (o, ty_H S') ∧ Q o S'
def ty_C (L : Nat) (xs : Nat → Int32) (d mi : Nat) (av : List ai_V) (S : ty_S) (Q : ai_O → ty_S → Prop) : Prop :=
  ∃ (N : Nat) (o : ai_O) (S' : ty_S), ai_call gt_P L xs N d mi av (ty_H S) = some (o, ty_H S') ∧ Q o S'
section TYR
variable {L : Nat} {xs : Nat → Int32} {d mi pc : Nat} {ls : ai_L} {st : List ai_V} {S : ty_S} {Q : ai_O → ty_S → Prop}
theorem ty_W.mono {Q' : ai_O → ty_S → Prop} (k : ty_W L xs d mi pc ls st S Q) (h : ∀ o S', Q o S' → Q' o S') : ty_W L xs d mi pc ls st S Q' := by
  obtain ⟨N, n, o, S', a, b⟩ := k
  exact ⟨N, n, o, S', a, h _ _ b⟩
theorem ty_C.mono {av : List ai_V} {Q' : ai_O → ty_S → Prop} (k : ty_C L xs d mi av S Q) (h : ∀ o S', Q o S' → Q' o S') : ty_C L xs d mi av S Q' := by
  obtain ⟨N, o, S', a, b⟩ := k
  exact ⟨N, o, S', a, h _ _ b⟩
theorem ty_C.deeper {av : List ai_V} {d' : Nat} (k : ty_C L xs d mi av S Q) (h : d ≤ d') : ty_C L xs d' mi av S Q := by
  obtain ⟨N, o, S', a, b⟩ := k
  exact ⟨N, o, S', ai_call_fuel _ _ _ _ _ _ _ _ h (Nat.le_refl _) a, b⟩
theorem ty_enter {av : List ai_V} {ml : Nat} (hm : (gt_P.2.2.1 mi).1 = ml) (he : ai_ent av ++ List.replicate (ml - (ai_ent av).length) none = ls) (hle : (ai_ent av).length ≤ ml) (k : ty_W L xs d mi 0 ls [] S Q) : ty_C L xs (d + 1) mi av S Q := by
  obtain ⟨N, n, o, S', a, b⟩ := k
  refine ⟨max N n, o, S', ?_, b⟩
  unfold ai_call
  rw [if_pos (by rw [hm]; exact hle), hm, he]
  exact ai_run_fuel (fun mi av h r z => ai_call_fuel _ _ _ _ _ _ _ _ (Nat.le_refl _) (Nat.le_max_left _ _) z) _ _ _ _ _ _ _ (Nat.le_max_right _ _) a
theorem ty_step {pc' : Nat} {ls' : ai_L} {st' : List ai_V} {S' : ty_S} (hs : ∀ (call : Nat → List ai_V → ai_H → Option (ai_O × ai_H)) (n : Nat), ai_run gt_P L xs call mi (n + 1) pc ls st (ty_H S) = ai_run gt_P L xs call mi n pc' ls' st' (ty_H S')) (k : ty_W L xs d mi pc' ls' st' S' Q) : ty_W L xs d mi pc ls st S Q := by
  obtain ⟨N, n, o, S2, a, b⟩ := k
  exact ⟨N, n + 1, o, S2, by rw [hs]; exact a, b⟩
/-! the stack alone -/
theorem ty_pure {ins : Instr} {ks : List Nat} {st' : List ai_V} (row : gt_P.1 mi pc = some (0, ins, ks)) (hp : ai_pure ins st = some st') (k : ty_W L xs d mi (pc + ai_len ins) ls st' S Q) : ty_W L xs d mi pc ls st S Q :=
  ty_step (fun call n => by simp only [ai_run, row, hp]) k
theorem ty_iconst {n : Int} {ks : List Nat} (row : gt_P.1 mi pc = some (0, .iconst n, ks)) (k : ty_W L xs d mi (pc + 1) ls (.inl (ty_J n) :: st) S Q) : ty_W L xs d mi pc ls st S Q := ty_pure row rfl k
theorem ty_bipush {n : Int} {ks : List Nat} (row : gt_P.1 mi pc = some (0, .bipush n, ks)) (h : -128 ≤ n ∧ n ≤ 127) (k : ty_W L xs d mi (pc + 2) ls (.inl (ty_J n) :: st) S Q) : ty_W L xs d mi pc ls st S Q := ty_pure row (by simp only [ai_pure]; rw [ty_bi h]) k
theorem ty_sipush {n : Int} {ks : List Nat} (row : gt_P.1 mi pc = some (0, .sipush n, ks)) (h : -32768 ≤ n ∧ n ≤ 32767) (k : ty_W L xs d mi (pc + 3) ls (.inl (ty_J n) :: st) S Q) : ty_W L xs d mi pc ls st S Q := ty_pure row (by simp only [ai_pure]; rw [ty_si h]) k
theorem ty_null {ks : List Nat} (row : gt_P.1 mi pc = some (0, .aconst_null, ks)) (k : ty_W L xs d mi (pc + 1) ls (.inr (.inr none) :: st) S Q) : ty_W L xs d mi pc ls st S Q := ty_pure row rfl k
theorem ty_dup {ks : List Nat} {v : ai_V} (row : gt_P.1 mi pc = some (0, .dup, ks)) (h : ai_two v = false) (k : ty_W L xs d mi (pc + 1) ls (v :: v :: st) S Q) : ty_W L xs d mi pc ls (v :: st) S Q := ty_pure row (by simp [ai_pure, h]) k
theorem ty_dup_x1 {ks : List Nat} {v w : ai_V} (row : gt_P.1 mi pc = some (0, .dup_x1, ks)) (h : ai_two v = false) (h2 : ai_two w = false) (k : ty_W L xs d mi (pc + 1) ls (v :: w :: v :: st) S Q) : ty_W L xs d mi pc ls (v :: w :: st) S Q := ty_pure row (by simp [ai_pure, h, h2]) k
theorem ty_dup_x2 {ks : List Nat} {v w u : ai_V} (row : gt_P.1 mi pc = some (0, .dup_x2, ks)) (h : ai_two v = false) (h2 : ai_two w = false) (h3 : ai_two u = false) (k : ty_W L xs d mi (pc + 1) ls (v :: w :: u :: v :: st) S Q) : ty_W L xs d mi pc ls (v :: w :: u :: st) S Q := ty_pure row (by simp [ai_pure, h, h2, h3]) k
theorem ty_dup2 {ks : List Nat} {v w : ai_V} (row : gt_P.1 mi pc = some (0, .dup2, ks)) (h : ai_two v = false) (h2 : ai_two w = false) (k : ty_W L xs d mi (pc + 1) ls (v :: w :: v :: w :: st) S Q) : ty_W L xs d mi pc ls (v :: w :: st) S Q := ty_pure row (by simp [ai_pure, h, h2]) k
theorem ty_pop {ks : List Nat} {v : ai_V} (row : gt_P.1 mi pc = some (0, .pop, ks)) (h : ai_two v = false) (k : ty_W L xs d mi (pc + 1) ls st S Q) : ty_W L xs d mi pc ls (v :: st) S Q := ty_pure row (by simp [ai_pure, h]) k
theorem ty_iadd {ks : List Nat} {x y : Int} (row : gt_P.1 mi pc = some (0, .iadd, ks)) (k : ty_W L xs d mi (pc + 1) ls (.inl (ty_J (x + y)) :: st) S Q) : ty_W L xs d mi pc ls (.inl (ty_J y) :: .inl (ty_J x) :: st) S Q := ty_pure row (by simp only [ai_pure, ai_ii, ty_J_add]) k
theorem ty_isub {ks : List Nat} {x y : Int} (row : gt_P.1 mi pc = some (0, .isub, ks)) (k : ty_W L xs d mi (pc + 1) ls (.inl (ty_J (x - y)) :: st) S Q) : ty_W L xs d mi pc ls (.inl (ty_J y) :: .inl (ty_J x) :: st) S Q := ty_pure row (by simp only [ai_pure, ai_ii, ty_J_sub]) k
theorem ty_imul {ks : List Nat} {x y : Int} (row : gt_P.1 mi pc = some (0, .imul, ks)) (k : ty_W L xs d mi (pc + 1) ls (.inl (ty_J (x * y)) :: st) S Q) : ty_W L xs d mi pc ls (.inl (ty_J y) :: .inl (ty_J x) :: st) S Q := ty_pure row (by simp only [ai_pure, ai_ii, ty_J_mul]) k
theorem ty_idiv {ks : List Nat} {x y : Int} (row : gt_P.1 mi pc = some (0, .idiv, ks)) (hx : 0 ≤ x ∧ x ≤ 2147483647) (hy : 0 < y ∧ y ≤ 2147483647) (k : ty_W L xs d mi (pc + 1) ls (.inl (ty_J (x / y)) :: st) S Q) : ty_W L xs d mi pc ls (.inl (ty_J y) :: .inl (ty_J x) :: st) S Q := by
  refine ty_pure row ?_ k
  have h0 : ty_J y ≠ 0 := by
    rw [← ty_J_zero, Ne, ty_J_eq (by omega) (by omega)]
    omega
  simp only [ai_pure, if_neg h0, ty_J_div hx hy]
theorem ty_irem {ks : List Nat} {x y : Int} (row : gt_P.1 mi pc = some (0, .irem, ks)) (hx : 0 ≤ x ∧ x ≤ 2147483647) (hy : 0 < y ∧ y ≤ 2147483647) (k : ty_W L xs d mi (pc + 1) ls (.inl (ty_J (x % y)) :: st) S Q) : ty_W L xs d mi pc ls (.inl (ty_J y) :: .inl (ty_J x) :: st) S Q := by
  refine ty_pure row ?_ k
  have h0 : ty_J y ≠ 0 := by
    rw [← ty_J_zero, Ne, ty_J_eq (by omega) (by omega)]
    omega
  simp only [ai_pure, if_neg h0, ty_J_rem hx hy]
theorem ty_inot {ks : List Nat} {x : Int} (row : gt_P.1 mi pc = some (0, .ixor, ks)) (k : ty_W L xs d mi (pc + 1) ls (.inl (ty_J (-1 - x)) :: st) S Q) : ty_W L xs d mi pc ls (.inl (ty_J (-1)) :: .inl (ty_J x) :: st) S Q := ty_pure row (by simp only [ai_pure, ai_ii, ty_not]) k
theorem ty_i2c_ {ks : List Nat} {x : Int} (row : gt_P.1 mi pc = some (0, .i2c, ks)) (h : 0 ≤ x ∧ x ≤ 65535) (k : ty_W L xs d mi (pc + 1) ls (.inl (ty_J x) :: st) S Q) : ty_W L xs d mi pc ls (.inl (ty_J x) :: st) S Q := ty_pure row (by simp only [ai_pure, ty_i2c h]) k
/-! jumps -/
theorem ty_jmp {ins : Instr} {ks : List Nat} {st' : List ai_V} {pc' : Nat} (row : gt_P.1 mi pc = some (1, ins, ks)) (hp : ai_jmp ins pc ks st = some (pc', st')) (k : ty_W L xs d mi pc' ls st' S Q) : ty_W L xs d mi pc ls st S Q :=
  ty_step (fun call n => by simp only [ai_run, row, hp]) k
theorem ty_goto {off : Int} {t : Nat} {ks : List Nat} (row : gt_P.1 mi pc = some (1, .goto off, t :: ks)) (k : ty_W L xs d mi t ls st S Q) : ty_W L xs d mi pc ls st S Q := ty_jmp row rfl k
theorem ty_br {q : ClassFile.Cond} {x y : Int} {p : Prop} (hp : ai_cmp q (ty_J x) (ty_J y) = true ↔ p) {off : Int} {t : Nat} {ks : List Nat} (row : gt_P.1 mi pc = some (1, .if_icmp q off, t :: ks)) (k1 : p → ty_W L xs d mi t ls st S Q) (k2 : ¬ p → ty_W L xs d mi (pc + 3) ls st S Q) : ty_W L xs d mi pc ls (.inl (ty_J y) :: .inl (ty_J x) :: st) S Q := by
  by_cases h : p
  · exact ty_jmp row (by simp only [ai_jmp]; rw [if_pos (hp.mpr h)]; rfl) (k1 h)
  · exact ty_jmp row (by simp only [ai_jmp]; rw [if_neg (fun z => h (hp.mp z))]) (k2 h)
theorem ty_br0 {q : ClassFile.Cond} {x : Int} {p : Prop} (hp : ai_cmp q (ty_J x) 0 = true ↔ p) {off : Int} {t : Nat} {ks : List Nat} (row : gt_P.1 mi pc = some (1, .ifCond q off, t :: ks)) (k1 : p → ty_W L xs d mi t ls st S Q) (k2 : ¬ p → ty_W L xs d mi (pc + 3) ls st S Q) : ty_W L xs d mi pc ls (.inl (ty_J x) :: st) S Q := by
  by_cases h : p
  · exact ty_jmp row (by simp only [ai_jmp]; rw [if_pos (hp.mpr h)]; rfl) (k1 h)
  · exact ty_jmp row (by simp only [ai_jmp]; rw [if_neg (fun z => h (hp.mp z))]) (k2 h)
section TYB
variable {x y : Int} {off : Int} {t : Nat} {ks : List Nat}
theorem ty_icmp_eq (row : gt_P.1 mi pc = some (1, .if_icmp .eq off, t :: ks)) (hx : -2147483648 ≤ x ∧ x ≤ 2147483647) (hy : -2147483648 ≤ y ∧ y ≤ 2147483647) (k1 : x = y → ty_W L xs d mi t ls st S Q) (k2 : x ≠ y → ty_W L xs d mi (pc + 3) ls st S Q) : ty_W L xs d mi pc ls (.inl (ty_J y) :: .inl (ty_J x) :: st) S Q :=
  ty_br (p := x = y) (by simp only [ai_cmp, decide_eq_true_eq]; exact ty_J_eq hx hy) row k1 k2
theorem ty_icmp_ne (row : gt_P.1 mi pc = some (1, .if_icmp .ne off, t :: ks)) (hx : -2147483648 ≤ x ∧ x ≤ 2147483647) (hy : -2147483648 ≤ y ∧ y ≤ 2147483647) (k1 : x ≠ y → ty_W L xs d mi t ls st S Q) (k2 : x = y → ty_W L xs d mi (pc + 3) ls st S Q) : ty_W L xs d mi pc ls (.inl (ty_J y) :: .inl (ty_J x) :: st) S Q :=
  ty_br (p := x ≠ y) (by simp only [ai_cmp, decide_eq_true_eq]; rw [ty_J_eq hx hy]) row k1 (fun h => k2 (Decidable.not_not.mp h))
theorem ty_icmp_lt (row : gt_P.1 mi pc = some (1, .if_icmp .lt off, t :: ks)) (hx : -2147483648 ≤ x ∧ x ≤ 2147483647) (hy : -2147483648 ≤ y ∧ y ≤ 2147483647) (k1 : x < y → ty_W L xs d mi t ls st S Q) (k2 : y ≤ x → ty_W L xs d mi (pc + 3) ls st S Q) : ty_W L xs d mi pc ls (.inl (ty_J y) :: .inl (ty_J x) :: st) S Q :=
  ty_br (p := x < y) (by simp only [ai_cmp, decide_eq_true_eq]; exact ty_J_lt hx hy) row k1 (fun h => k2 (by omega))
theorem ty_icmp_ge (row : gt_P.1 mi pc = some (1, .if_icmp .ge off, t :: ks)) (hx : -2147483648 ≤ x ∧ x ≤ 2147483647) (hy : -2147483648 ≤ y ∧ y ≤ 2147483647) (k1 : y ≤ x → ty_W L xs d mi t ls st S Q) (k2 : x < y → ty_W L xs d mi (pc + 3) ls st S Q) : ty_W L xs d mi pc ls (.inl (ty_J y) :: .inl (ty_J x) :: st) S Q :=
  ty_br (p := y ≤ x) (by simp only [ai_cmp, decide_eq_true_eq]; exact ty_J_le hy hx) row k1 (fun h => k2 (by omega))
theorem ty_icmp_gt (row : gt_P.1 mi pc = some (1, .if_icmp .gt off, t :: ks)) (hx : -2147483648 ≤ x ∧ x ≤ 2147483647) (hy : -2147483648 ≤ y ∧ y ≤ 2147483647) (k1 : y < x → ty_W L xs d mi t ls st S Q) (k2 : x ≤ y → ty_W L xs d mi (pc + 3) ls st S Q) : ty_W L xs d mi pc ls (.inl (ty_J y) :: .inl (ty_J x) :: st) S Q :=
  ty_br (p := y < x) (by simp only [ai_cmp, decide_eq_true_eq]; exact ty_J_lt hy hx) row k1 (fun h => k2 (by omega))
theorem ty_icmp_le (row : gt_P.1 mi pc = some (1, .if_icmp .le off, t :: ks)) (hx : -2147483648 ≤ x ∧ x ≤ 2147483647) (hy : -2147483648 ≤ y ∧ y ≤ 2147483647) (k1 : x ≤ y → ty_W L xs d mi t ls st S Q) (k2 : y < x → ty_W L xs d mi (pc + 3) ls st S Q) : ty_W L xs d mi pc ls (.inl (ty_J y) :: .inl (ty_J x) :: st) S Q :=
  ty_br (p := x ≤ y) (by simp only [ai_cmp, decide_eq_true_eq]; exact ty_J_le hx hy) row k1 (fun h => k2 (by omega))
theorem ty_if_eq (row : gt_P.1 mi pc = some (1, .ifCond .eq off, t :: ks)) (hx : -2147483648 ≤ x ∧ x ≤ 2147483647) (k1 : x = 0 → ty_W L xs d mi t ls st S Q) (k2 : x ≠ 0 → ty_W L xs d mi (pc + 3) ls st S Q) : ty_W L xs d mi pc ls (.inl (ty_J x) :: st) S Q :=
  ty_br0 (p := x = 0) (by rw [← ty_J_zero]; simp only [ai_cmp, decide_eq_true_eq]; exact ty_J_eq hx (by omega)) row k1 k2
theorem ty_if_ne (row : gt_P.1 mi pc = some (1, .ifCond .ne off, t :: ks)) (hx : -2147483648 ≤ x ∧ x ≤ 2147483647) (k1 : x ≠ 0 → ty_W L xs d mi t ls st S Q) (k2 : x = 0 → ty_W L xs d mi (pc + 3) ls st S Q) : ty_W L xs d mi pc ls (.inl (ty_J x) :: st) S Q :=
  ty_br0 (p := x ≠ 0) (by rw [← ty_J_zero]; simp only [ai_cmp, decide_eq_true_eq]; rw [ty_J_eq hx (by omega)]) row k1 (fun h => k2 (Decidable.not_not.mp h))
theorem ty_if_lt (row : gt_P.1 mi pc = some (1, .ifCond .lt off, t :: ks)) (hx : -2147483648 ≤ x ∧ x ≤ 2147483647) (k1 : x < 0 → ty_W L xs d mi t ls st S Q) (k2 : 0 ≤ x → ty_W L xs d mi (pc + 3) ls st S Q) : ty_W L xs d mi pc ls (.inl (ty_J x) :: st) S Q :=
  ty_br0 (p := x < 0) (by rw [← ty_J_zero]; simp only [ai_cmp, decide_eq_true_eq]; exact ty_J_lt hx (by omega)) row k1 (fun h => k2 (by omega))
theorem ty_if_ge (row : gt_P.1 mi pc = some (1, .ifCond .ge off, t :: ks)) (hx : -2147483648 ≤ x ∧ x ≤ 2147483647) (k1 : 0 ≤ x → ty_W L xs d mi t ls st S Q) (k2 : x < 0 → ty_W L xs d mi (pc + 3) ls st S Q) : ty_W L xs d mi pc ls (.inl (ty_J x) :: st) S Q :=
  ty_br0 (p := 0 ≤ x) (by rw [← ty_J_zero]; simp only [ai_cmp, decide_eq_true_eq]; exact ty_J_le (by omega) hx) row k1 (fun h => k2 (by omega))
theorem ty_if_gt (row : gt_P.1 mi pc = some (1, .ifCond .gt off, t :: ks)) (hx : -2147483648 ≤ x ∧ x ≤ 2147483647) (k1 : 0 < x → ty_W L xs d mi t ls st S Q) (k2 : x ≤ 0 → ty_W L xs d mi (pc + 3) ls st S Q) : ty_W L xs d mi pc ls (.inl (ty_J x) :: st) S Q :=
  ty_br0 (p := 0 < x) (by rw [← ty_J_zero]; simp only [ai_cmp, decide_eq_true_eq]; exact ty_J_lt (by omega) hx) row k1 (fun h => k2 (by omega))
theorem ty_if_le (row : gt_P.1 mi pc = some (1, .ifCond .le off, t :: ks)) (hx : -2147483648 ≤ x ∧ x ≤ 2147483647) (k1 : x ≤ 0 → ty_W L xs d mi t ls st S Q) (k2 : 0 < x → ty_W L xs d mi (pc + 3) ls st S Q) : ty_W L xs d mi pc ls (.inl (ty_J x) :: st) S Q :=
  ty_br0 (p := x ≤ 0) (by rw [← ty_J_zero]; simp only [ai_cmp, decide_eq_true_eq]; exact ty_J_le hx (by omega)) row k1 (fun h => k2 (by omega))
theorem ty_ifnull {v : Option ai_A} (row : gt_P.1 mi pc = some (1, .ifnull off, t :: ks)) (k1 : v = none → ty_W L xs d mi t ls st S Q) (k2 : v ≠ none → ty_W L xs d mi (pc + 3) ls st S Q) : ty_W L xs d mi pc ls (.inr (.inr v) :: st) S Q := by
  cases v with
  | none => exact ty_jmp row rfl (k1 rfl)
  | some a => exact ty_jmp row rfl (k2 (by simp))
theorem ty_ifnonnull {v : Option ai_A} (row : gt_P.1 mi pc = some (1, .ifnonnull off, t :: ks)) (k1 : v ≠ none → ty_W L xs d mi t ls st S Q) (k2 : v = none → ty_W L xs d mi (pc + 3) ls st S Q) : ty_W L xs d mi pc ls (.inr (.inr v) :: st) S Q := by
  cases v with
  | none => exact ty_jmp row rfl (k2 rfl)
  | some a => exact ty_jmp row rfl (k1 (by simp))
end TYB
/-! locals -/
theorem ty_loc {ins : Instr} {ks : List Nat} {ls' : ai_L} {st' : List ai_V} (row : gt_P.1 mi pc = some (2, ins, ks)) (hp : ai_loc ins ls st = some (ls', st')) (k : ty_W L xs d mi (pc + ai_len ins) ls' st' S Q) : ty_W L xs d mi pc ls st S Q :=
  ty_step (fun call n => by simp only [ai_run, row, hp]) k
section TYL
variable {ks : List Nat} {x : Int32} {v : Option ai_A} {w : Int64} {ls' : ai_L}
theorem ty_iload {i : Nat} (row : gt_P.1 mi pc = some (2, .iload i, ks)) (hl : ls[i]? = some (some (.inl x))) (k : ty_W L xs d mi (pc + 2) ls (.inl x :: st) S Q) : ty_W L xs d mi pc ls st S Q := ty_loc row (by simp only [ai_loc, hl]) k
theorem ty_iload_n {i : Fin 4} (row : gt_P.1 mi pc = some (2, .iload_n i, ks)) (hl : ls[(i : Nat)]? = some (some (.inl x))) (k : ty_W L xs d mi (pc + 1) ls (.inl x :: st) S Q) : ty_W L xs d mi pc ls st S Q := ty_loc row (by simp only [ai_loc, hl]) k
theorem ty_aload {i : Nat} (row : gt_P.1 mi pc = some (2, .aload i, ks)) (hl : ls[i]? = some (some (.inr (.inr v)))) (k : ty_W L xs d mi (pc + 2) ls (.inr (.inr v) :: st) S Q) : ty_W L xs d mi pc ls st S Q := ty_loc row (by simp only [ai_loc, hl]) k
theorem ty_aload_n {i : Fin 4} (row : gt_P.1 mi pc = some (2, .aload_n i, ks)) (hl : ls[(i : Nat)]? = some (some (.inr (.inr v)))) (k : ty_W L xs d mi (pc + 1) ls (.inr (.inr v) :: st) S Q) : ty_W L xs d mi pc ls st S Q := ty_loc row (by simp only [ai_loc, hl]) k
theorem ty_lload_n {i : Fin 4} (row : gt_P.1 mi pc = some (2, .lload_n i, ks)) (hl : ls[(i : Nat)]? = some (some (.inr (.inl w)))) (k : ty_W L xs d mi (pc + 1) ls (.inr (.inl w) :: st) S Q) : ty_W L xs d mi pc ls st S Q := ty_loc row (by simp only [ai_loc, hl]) k
theorem ty_istore {i : Nat} (row : gt_P.1 mi pc = some (2, .istore i, ks)) (hs : ai_st1 ls i (.inl x) = some ls') (k : ty_W L xs d mi (pc + 2) ls' st S Q) : ty_W L xs d mi pc ls (.inl x :: st) S Q := ty_loc row (by simp only [ai_loc, hs]; rfl) k
theorem ty_istore_n {i : Fin 4} (row : gt_P.1 mi pc = some (2, .istore_n i, ks)) (hs : ai_st1 ls i (.inl x) = some ls') (k : ty_W L xs d mi (pc + 1) ls' st S Q) : ty_W L xs d mi pc ls (.inl x :: st) S Q := ty_loc row (by simp only [ai_loc, hs]; rfl) k
theorem ty_astore {i : Nat} (row : gt_P.1 mi pc = some (2, .astore i, ks)) (hs : ai_st1 ls i (.inr (.inr v)) = some ls') (k : ty_W L xs d mi (pc + 2) ls' st S Q) : ty_W L xs d mi pc ls (.inr (.inr v) :: st) S Q := ty_loc row (by simp only [ai_loc, hs]; rfl) k
theorem ty_astore_n {i : Fin 4} (row : gt_P.1 mi pc = some (2, .astore_n i, ks)) (hs : ai_st1 ls i (.inr (.inr v)) = some ls') (k : ty_W L xs d mi (pc + 1) ls' st S Q) : ty_W L xs d mi pc ls (.inr (.inr v) :: st) S Q := ty_loc row (by simp only [ai_loc, hs]; rfl) k
theorem ty_iinc {i : Nat} {n z : Int} (row : gt_P.1 mi pc = some (2, .iinc i n, ks)) (hl : ls[i]? = some (some (.inl (ty_J z)))) (hs : ai_st1 ls i (.inl (ty_J (z + n))) = some ls') (k : ty_W L xs d mi (pc + 3) ls' st S Q) : ty_W L xs d mi pc ls st S Q := by
  refine ty_loc row ?_ k
  simp only [ai_loc, hl]
  rw [show Int32.ofInt n = ty_J n from rfl, ty_J_add, hs]
  rfl
end TYL
end TYR
