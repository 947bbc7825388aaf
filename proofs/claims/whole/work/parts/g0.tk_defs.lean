/-! What is made at first: the state as lists of what has been put where. -/
def tk_I : List (ai_A × Option Nat × Int) → ai_A → Nat → Int
  | [], _, _ => 0
  | (a, none, _) :: l, b, j => if b = a then 0 else tk_I l b j
  | (a, some k, v) :: l, b, j => if b = a ∧ j = k then v else tk_I l b j
def tk_R : List (ai_A × Option Nat × Option ai_A) → ai_A → Nat → Option ai_A
  | [], b, j => ty_ref b.1 b.2 j
  | (a, none, _) :: l, b, j => if b = a then none else tk_R l b j
  | (a, some k, v) :: l, b, j => if b = a ∧ j = k then v else tk_R l b j
def tk_Q : List (Int × Option ai_A) → ai_A → Int → Option ai_A
  | [], _, _ => none
  | (i, v) :: l, b, j => if b = (11, 0) ∧ j = i then v else tk_Q l b j
def tk_M (l : List Nat) (s : Nat) : Nat := (if s = 0 then 3 else 0) + l.count s
def tk (lI : List (ai_A × Option Nat × Int)) (lR : List (ai_A × Option Nat × Option ai_A)) (lQ : List (Int × Option ai_A)) (lm : List Nat) (w : Nat) : ty_S := (fun b j => tk_I lI b j, fun b j => tk_R lR b j, fun _ _ => 0, fun b j => tk_Q lQ b j, fun _ => 0, fun b => (ty_len b.1).getD 0, fun s => tk_M lm s, lm.length, w)
theorem tk_M_eq {l : List Nat} {s : Nat} : tk_M (s :: l) s = tk_M l s + 1 := by
  unfold tk_M
  rw [List.count_cons_self]
  omega
theorem tk_M_ne {l : List Nat} {s x : Nat} (h : x ≠ s) : tk_M (x :: l) s = tk_M l s := by
  unfold tk_M
  rw [List.count_cons_of_ne h]
theorem tk_p {l : List Nat} {s x i : Nat} (h : i < tk_M l s) : i < tk_M (x :: l) s := by
  by_cases e : x = s
  · subst e
    rw [tk_M_eq]
    omega
  · rw [tk_M_ne e]
    exact h
theorem tk_M_f {l : List Nat} {s : Nat} : (fun j => if j = s then tk_M l s + 1 else tk_M l j) = fun j => tk_M (s :: l) j := by
  funext j
  by_cases e : j = s
  · subst e
    rw [if_pos rfl, tk_M_eq]
  · rw [if_neg e, tk_M_ne (fun z => e z.symm)]
theorem tk_Q_ne {l : List (Int × Option ai_A)} {b : ai_A} (h : b ≠ (11, 0)) : (fun j => tk_Q l b j) = fun _ => none := by
  induction l with
  | nil => rfl
  | cons p l ih =>
    funext j
    show (if b = (11, 0) ∧ j = p.1 then p.2 else tk_Q l b j) = none
    rw [if_neg (fun z => h z.1)]
    exact congrFun ih j
section TKR
variable {L : Nat} {xs : Nat → Int32} {d mi pc : Nat} {ls : ai_L} {st : List ai_V} {Q : ai_O → ty_S → Prop} {lI : List (ai_A × Option Nat × Int)} {lR : List (ai_A × Option Nat × Option ai_A)} {lQ : List (Int × Option ai_A)} {lm : List Nat} {w : Nat} {a : ai_A}
theorem tk_sI {k : Nat} {v : Int} : ty_sI (tk lI lR lQ lm w) a k v = tk ((a, some k, v) :: lI) lR lQ lm w := rfl
theorem tk_sR {k : Nat} {v : Option ai_A} : ty_sR (tk lI lR lQ lm w) a k v = tk lI ((a, some k, v) :: lR) lQ lm w := rfl
theorem tk_sQ {i : Int} {v : Option ai_A} : ty_sQ (tk lI lR lQ lm w) (11, 0) i v = tk lI lR ((i, v) :: lQ) lm w := rfl
theorem tk_nA {s n i : Nat} (hm : tk_M lm s = i) (hq : (fun j => tk_Q lQ (s, i) j) = fun _ => none) (hl : (ty_len s).getD 0 = n) : ty_nA (tk lI lR lQ lm w) s n = tk lI lR lQ (s :: lm) (w + n) := by
  subst hm
  refine Prod.ext rfl (Prod.ext rfl (Prod.ext ?_ (Prod.ext ?_ (Prod.ext ?_ (Prod.ext ?_ (Prod.ext ?_ rfl))))))
  · funext b
    show (if b = (s, tk_M lm s) then fun _ => 0 else fun _ => 0) = fun _ => (0 : Int)
    split <;> rfl
  · funext b
    show (if b = (s, tk_M lm s) then fun _ => none else fun j => tk_Q lQ b j) = fun j => tk_Q lQ b j
    split
    · rename_i e
      rw [e, hq]
    · rfl
  · show (if (ty_sk s).1 = 3 then fun _ => 0 else fun _ => 0) = fun _ => (0 : Int64)
    split <;> rfl
  · funext b
    show (if b = (s, tk_M lm s) then n else (ty_len b.1).getD 0) = (ty_len b.1).getD 0
    split
    · rename_i e
      rw [e]
      exact hl.symm
    · rfl
  · exact tk_M_f
theorem tk_nO {s n i : Nat} (hm : tk_M lm s = i) : ty_nO (tk lI lR lQ lm w) s n = tk (((s, i), none, 0) :: lI) (((s, i), none, none) :: lR) lQ (s :: lm) (w + n) := by
  subst hm
  exact Prod.ext rfl (Prod.ext rfl (Prod.ext rfl (Prod.ext rfl (Prod.ext rfl (Prod.ext rfl (Prod.ext tk_M_f rfl))))))
theorem tk_newA {at_ : ClassFile.ArrayType} {t s i : Nat} {n : Int} (row : gt_P.1 mi pc = some (3, .newarray at_, [t, s])) (hs : ty_sk s = (2, t)) (ht : gt_tyL.getD t .float ≠ .long) (hn : 0 ≤ n ∧ n ≤ 67108864) (hm : tk_M lm s = i) (hq : (s, i) ≠ (11, 0)) (hl : (ty_len s).getD 0 = n.toNat) (k : ty_W L xs d mi (pc + 2) ls (.inr (.inr (some (s, i))) :: st) (tk lI lR lQ (s :: lm) (w + n.toNat)) Q) : ty_W L xs d mi pc ls (.inl (ty_J n) :: st) (tk lI lR lQ lm w) Q := by
  refine ty_newA row hs ht hn ?_
  rw [tk_nA hm (tk_Q_ne hq) hl]
  have e : (tk lI lR lQ lm w).2.2.2.2.2.2.1 s = i := hm
  rw [e]
  exact k
theorem tk_newQ {idx t s i : Nat} {n : Int} (row : gt_P.1 mi pc = some (3, .anewarray idx, [t, s])) (hs : ty_sk s = (4, t)) (hn : 0 ≤ n ∧ n ≤ 67108864) (hm : tk_M lm s = i) (hq : (fun j => tk_Q lQ (s, i) j) = fun _ => none) (hl : (ty_len s).getD 0 = n.toNat) (k : ty_W L xs d mi (pc + 3) ls (.inr (.inr (some (s, i))) :: st) (tk lI lR lQ (s :: lm) (w + n.toNat)) Q) : ty_W L xs d mi pc ls (.inl (ty_J n) :: st) (tk lI lR lQ lm w) Q := by
  refine ty_newQ row hs hn ?_
  rw [tk_nA hm hq hl]
  have e : (tk lI lR lQ lm w).2.2.2.2.2.2.1 s = i := hm
  rw [e]
  exact k
theorem tk_newO {idx ci s i : Nat} (row : gt_P.1 mi pc = some (3, .new idx, [ci, s])) (hs : ty_sk s = (1, ci)) (hd : gt_dfl ci = (ty_kd ci).map ty_df) (hm : tk_M lm s = i) (k : ty_W L xs d mi (pc + 3) ls (.inr (.inr (some (s, i))) :: st) (tk (((s, i), none, 0) :: lI) (((s, i), none, none) :: lR) lQ (s :: lm) (w + (ty_kd ci).length)) Q) : ty_W L xs d mi pc ls st (tk lI lR lQ lm w) Q := by
  refine ty_newO row hs hd ?_
  rw [tk_nO hm]
  have e : (tk lI lR lQ lm w).2.2.2.2.2.2.1 s = i := hm
  rw [e]
  exact k
theorem tk_0 : 1 < tk_M lm 0 := by
  unfold tk_M
  rw [if_pos rfl]
  omega
theorem ty_newL {S : ty_S} {t s : Nat} {n : Int} (row : gt_P.1 mi pc = some (3, .newarray .long, [t, s])) (hs : ty_sk s = (3, t)) (ht : gt_tyL.getD t .float = .long) (hn : 0 ≤ n ∧ n ≤ 67108864) (hg : S.2.2.2.2.1 = fun _ => 0) (k : ty_W L xs d mi (pc + 2) ls (.inr (.inr (some (s, S.2.2.2.2.2.2.1 s))) :: st) (ty_nA S s n.toNat) Q) : ty_W L xs d mi pc ls (.inl (ty_J n) :: st) S Q := by
  refine ty_heap row ?_ k
  have e1 : ai_new (ty_H S) s (.inr (.inl (t, n.toNat, .inr (.inl fun _ => 0)))) n.toNat = ty_H (ty_nA S s n.toNat) := by
    refine ty_new rfl rfl ?_ (fun b hb => ?_)
    · rw [ty_cell_l (a := (s, S.2.2.2.2.2.2.1 s)) hs]
      simp [ty_nA, hs]
    · unfold ty_cell
      split <;> first | rfl | (simp [ty_nA, hb, hs, hg]; done) | (rw [ty_fl_eq (S := ty_nA S s n.toNat) (S' := S) _ 0 (fun j _ => rfl) (fun j _ => rfl)])
  simp only [ai_heap]
  show (if ((ty_H S).1 (s, (ty_H S).2.1 s)).isNone = true ∧ ¬ ty_J n < 0 ∧ (ty_J n).toNatClampNeg * 8 ≤ 536870912 then some (Sum.inr (Sum.inr (some (s, (ty_H S).2.1 s))) :: st, ai_new (ty_H S) s (.inr (.inl (t, (ty_J n).toNatClampNeg, if gt_tyL.getD t .float = .long then .inr (.inl fun _ => 0) else .inl fun _ => 0))) (ty_J n).toNatClampNeg) else none) = _
  rw [if_pos ⟨ty_none, ty_J_nneg (by omega), by rw [ty_J_nat (by omega)]; omega⟩, if_pos ht, ty_J_nat (by omega), e1]
  rfl
end TKR
