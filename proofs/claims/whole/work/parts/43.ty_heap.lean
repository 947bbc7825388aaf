/-! Rules of the heap, of calls and ends. -/
section TYH
variable {L : Nat} {xs : Nat → Int32} {d mi pc : Nat} {ls : ai_L} {st : List ai_V} {S : ty_S} {Q : ai_O → ty_S → Prop} {ks : List Nat} {a : ai_A}
theorem ty_heap {ins : Instr} {st' : List ai_V} {S' : ty_S} (row : gt_P.1 mi pc = some (3, ins, ks)) (hp : ai_heap gt_dfl (fun t => gt_tyL.getD t .float) gt_tyF gt_asg L xs ins ks st (ty_H S) = some (st', ty_H S')) (k : ty_W L xs d mi (pc + ai_len ins) ls st' S' Q) : ty_W L xs d mi pc ls st S Q :=
  ty_step (fun call n => by
    simp only [ai_run, row]
    rw [show ai_heap gt_P.2.2.2.1 (fun t => gt_P.2.2.2.2.1.getD t .float) gt_P.2.2.2.2.2.1 gt_P.2.2.2.2.2.2 L xs ins ks st (ty_H S) = some (st', ty_H S') from hp]) k
theorem ty_getI {idx ci f : Nat} (row : gt_P.1 mi pc = some (3, .getfield idx, [ci, f])) (hs : ty_sk a.1 = (1, ci)) (hk : (ty_kd ci)[f]? = some false) (hp : a.2 < S.2.2.2.2.2.2.1 a.1) (k : ∀ v, S.1 a f = v → ty_W L xs d mi (pc + 3) ls (.inl (ty_J v) :: st) S Q) : ty_W L xs d mi pc ls (.inr (.inr (some a)) :: st) S Q := by
  refine ty_heap row ?_ (k _ rfl)
  have h1 := ty_H_at (S := S) hp
  rw [ty_cell_o hs] at h1
  have h2 := ty_fl_at (S := S) (a := a) (ty_kd ci) 0 f false hk
  simp only [ai_heap, h1]
  show (if ci = ci then ((ty_fl S a 0 (ty_kd ci))[f]?).map (fun v => (v :: st, ty_H S)) else none) = _
  rw [if_pos rfl, h2]
  simp
theorem ty_getR {idx ci f : Nat} (row : gt_P.1 mi pc = some (3, .getfield idx, [ci, f])) (hs : ty_sk a.1 = (1, ci)) (hk : (ty_kd ci)[f]? = some true) (hp : a.2 < S.2.2.2.2.2.2.1 a.1) (k : ∀ v, S.2.1 a f = v → ty_W L xs d mi (pc + 3) ls (.inr (.inr v) :: st) S Q) : ty_W L xs d mi pc ls (.inr (.inr (some a)) :: st) S Q := by
  refine ty_heap row ?_ (k _ rfl)
  have h1 := ty_H_at (S := S) hp
  rw [ty_cell_o hs] at h1
  have h2 := ty_fl_at (S := S) (a := a) (ty_kd ci) 0 f true hk
  simp only [ai_heap, h1]
  show (if ci = ci then ((ty_fl S a 0 (ty_kd ci))[f]?).map (fun v => (v :: st, ty_H S)) else none) = _
  rw [if_pos rfl, h2]
  simp
theorem ty_put_ {idx ci f : Nat} {v : ai_V} {S' : ty_S} (row : gt_P.1 mi pc = some (3, .putfield idx, [ci, f])) (hs : ty_sk a.1 = (1, ci)) (hk : f < (ty_kd ci).length) (hp : a.2 < S.2.2.2.2.2.2.1 a.1) (hf : ai_fit (gt_tyF ci f) v = true) (hS : ai_put (ty_H S) a (.inl (ci, (ty_fl S a 0 (ty_kd ci)).set f v)) = ty_H S') (k : ty_W L xs d mi (pc + 3) ls st S' Q) : ty_W L xs d mi pc ls (v :: .inr (.inr (some a)) :: st) S Q := by
  refine ty_heap row ?_ k
  have h1 := ty_H_at (S := S) hp
  rw [ty_cell_o hs] at h1
  simp only [ai_heap, h1]
  show (if ci = ci ∧ f < (ty_fl S a 0 (ty_kd ci)).length ∧ ai_fit (gt_tyF ci f) v = true then some (st, ai_put (ty_H S) a (.inl (ci, (ty_fl S a 0 (ty_kd ci)).set f v))) else none) = _
  rw [if_pos ⟨rfl, by rw [ty_fl_len]; exact hk, hf⟩, hS]
theorem ty_putF {idx ci f : Nat} {v : Int} (row : gt_P.1 mi pc = some (3, .putfield idx, [ci, f])) (hs : ty_sk a.1 = (1, ci)) (hk : (ty_kd ci)[f]? = some false) (hf : ai_fit (gt_tyF ci f) (.inl (ty_J v)) = true) (hp : a.2 < S.2.2.2.2.2.2.1 a.1) (k : ty_W L xs d mi (pc + 3) ls st (ty_sI S a f v) Q) : ty_W L xs d mi pc ls (.inl (ty_J v) :: .inr (.inr (some a)) :: st) S Q := by
  refine ty_put_ row hs (List.getElem?_eq_some_iff.mp hk).1 hp hf (ty_put (S' := ty_sI S a f v) rfl hp ?_ (fun b hb => ty_cell_sI hb)) k
  rw [ty_cell_o hs, ty_fl_setI _ 0 f hk, Nat.zero_add]
theorem ty_putI {idx ci f : Nat} {v : Int} (row : gt_P.1 mi pc = some (3, .putfield idx, [ci, f])) (hs : ty_sk a.1 = (1, ci)) (hk : (ty_kd ci)[f]? = some false) (hf : gt_tyF ci f = .int) (hp : a.2 < S.2.2.2.2.2.2.1 a.1) (k : ty_W L xs d mi (pc + 3) ls st (ty_sI S a f v) Q) : ty_W L xs d mi pc ls (.inl (ty_J v) :: .inr (.inr (some a)) :: st) S Q :=
  ty_putF row hs hk (by rw [hf]; rfl) hp k
theorem ty_putZ {idx ci f : Nat} {v : Int} (row : gt_P.1 mi pc = some (3, .putfield idx, [ci, f])) (hs : ty_sk a.1 = (1, ci)) (hk : (ty_kd ci)[f]? = some false) (hf : gt_tyF ci f = .boolean) (hp : a.2 < S.2.2.2.2.2.2.1 a.1) (hv : v = 0 ∨ v = 1) (k : ty_W L xs d mi (pc + 3) ls st (ty_sI S a f v) Q) : ty_W L xs d mi pc ls (.inl (ty_J v) :: .inr (.inr (some a)) :: st) S Q :=
  ty_putF row hs hk (by rw [hf]; exact ty_fit_z hv) hp k
theorem ty_putC {idx ci f : Nat} {v : Int} (row : gt_P.1 mi pc = some (3, .putfield idx, [ci, f])) (hs : ty_sk a.1 = (1, ci)) (hk : (ty_kd ci)[f]? = some false) (hf : gt_tyF ci f = .char) (hp : a.2 < S.2.2.2.2.2.2.1 a.1) (hv : 0 ≤ v ∧ v ≤ 65535) (k : ty_W L xs d mi (pc + 3) ls st (ty_sI S a f v) Q) : ty_W L xs d mi pc ls (.inl (ty_J v) :: .inr (.inr (some a)) :: st) S Q :=
  ty_putF row hs hk (by rw [hf]; exact ty_fit_c hv) hp k
theorem ty_putR {idx ci f : Nat} {v : Option ai_A} (row : gt_P.1 mi pc = some (3, .putfield idx, [ci, f])) (hs : ty_sk a.1 = (1, ci)) (hk : (ty_kd ci)[f]? = some true) (hf : ai_fit (gt_tyF ci f) (.inr (.inr v)) = true) (hp : a.2 < S.2.2.2.2.2.2.1 a.1) (k : ty_W L xs d mi (pc + 3) ls st (ty_sR S a f v) Q) : ty_W L xs d mi pc ls (.inr (.inr v) :: .inr (.inr (some a)) :: st) S Q := by
  refine ty_put_ row hs (List.getElem?_eq_some_iff.mp hk).1 hp hf (ty_put (S' := ty_sR S a f v) rfl hp ?_ (fun b hb => ty_cell_sR hb)) k
  rw [ty_cell_o hs, ty_fl_setR _ 0 f hk, Nat.zero_add]
/-! arrays -/
theorem ty_ix {i : Int} {n : Nat} (hi : 0 ≤ i ∧ i < n ∧ i ≤ 2147483647) : ¬ (ty_J i < 0 ∨ n ≤ (ty_J i).toNatClampNeg) := by
  rw [ty_J_nat (by omega)]
  rintro (h | h)
  · exact ty_J_nneg (by omega) h
  · omega
theorem ty_iaload {t n : Nat} {i : Int} (row : gt_P.1 mi pc = some (3, .iaload, ks)) (hs : ty_sk a.1 = (2, t)) (ht : gt_tyL.getD t .float = .int) (hp : a.2 < S.2.2.2.2.2.2.1 a.1) (hn : S.2.2.2.2.2.1 a = n) (hi : 0 ≤ i ∧ i < n ∧ i ≤ 2147483647) (k : ∀ v, S.2.2.1 a i = v → ty_W L xs d mi (pc + 1) ls (.inl (ty_J v) :: st) S Q) : ty_W L xs d mi pc ls (.inl (ty_J i) :: .inr (.inr (some a)) :: st) S Q := by
  refine ty_heap row ?_ (k _ rfl)
  have h1 := ty_H_at (S := S) hp
  rw [ty_cell_i hs] at h1
  simp only [ai_heap, h1]
  rw [if_pos ⟨ht, by rw [hn]; exact ty_ix hi⟩, ty_J_nat (by omega), Int.toNat_of_nonneg hi.1]
theorem ty_caload {t n : Nat} {i : Int} (row : gt_P.1 mi pc = some (3, .caload, ks)) (hs : ty_sk a.1 = (2, t)) (ht : gt_tyL.getD t .float = .char) (hp : a.2 < S.2.2.2.2.2.2.1 a.1) (hn : S.2.2.2.2.2.1 a = n) (hi : 0 ≤ i ∧ i < n ∧ i ≤ 2147483647) (k : ∀ v, S.2.2.1 a i = v → ty_W L xs d mi (pc + 1) ls (.inl (ty_J v) :: st) S Q) : ty_W L xs d mi pc ls (.inl (ty_J i) :: .inr (.inr (some a)) :: st) S Q := by
  refine ty_heap row ?_ (k _ rfl)
  have h1 := ty_H_at (S := S) hp
  rw [ty_cell_i hs] at h1
  simp only [ai_heap, h1]
  rw [if_pos ⟨ht, by rw [hn]; exact ty_ix hi⟩, ty_J_nat (by omega), Int.toNat_of_nonneg hi.1]
theorem ty_baload {t n : Nat} {i : Int} (row : gt_P.1 mi pc = some (3, .baload, ks)) (hs : ty_sk a.1 = (2, t)) (ht : gt_tyL.getD t .float = .boolean) (hp : a.2 < S.2.2.2.2.2.2.1 a.1) (hn : S.2.2.2.2.2.1 a = n) (hi : 0 ≤ i ∧ i < n ∧ i ≤ 2147483647) (k : ∀ v, S.2.2.1 a i = v → ty_W L xs d mi (pc + 1) ls (.inl (ty_J v) :: st) S Q) : ty_W L xs d mi pc ls (.inl (ty_J i) :: .inr (.inr (some a)) :: st) S Q := by
  refine ty_heap row ?_ (k _ rfl)
  have h1 := ty_H_at (S := S) hp
  rw [ty_cell_i hs] at h1
  simp only [ai_heap, h1]
  rw [if_pos ⟨ht, by rw [hn]; exact ty_ix hi⟩, ty_J_nat (by omega), Int.toNat_of_nonneg hi.1]
theorem ty_aaload {t n : Nat} {i : Int} (row : gt_P.1 mi pc = some (3, .aaload, ks)) (hs : ty_sk a.1 = (4, t)) (ht : ai_obj (gt_tyL.getD t .float) = true) (hp : a.2 < S.2.2.2.2.2.2.1 a.1) (hn : S.2.2.2.2.2.1 a = n) (hi : 0 ≤ i ∧ i < n ∧ i ≤ 2147483647) (k : ∀ v, S.2.2.2.1 a i = v → ty_W L xs d mi (pc + 1) ls (.inr (.inr v) :: st) S Q) : ty_W L xs d mi pc ls (.inl (ty_J i) :: .inr (.inr (some a)) :: st) S Q := by
  refine ty_heap row ?_ (k _ rfl)
  have h1 := ty_H_at (S := S) hp
  rw [ty_cell_q hs] at h1
  simp only [ai_heap, h1]
  rw [if_pos ⟨ht, by rw [hn]; exact ty_ix hi⟩, ty_J_nat (by omega), Int.toNat_of_nonneg hi.1]
theorem ty_laload {t n : Nat} {i : Int} (row : gt_P.1 mi pc = some (3, .laload, ks)) (hs : ty_sk a.1 = (3, t)) (ht : gt_tyL.getD t .float = .long) (hp : a.2 < S.2.2.2.2.2.2.1 a.1) (hn : S.2.2.2.2.2.1 a = n) (hi : 0 ≤ i ∧ i < n ∧ i ≤ 2147483647) (k : ∀ v, S.2.2.2.2.1 i = v → ty_W L xs d mi (pc + 1) ls (.inr (.inl v) :: st) S Q) : ty_W L xs d mi pc ls (.inl (ty_J i) :: .inr (.inr (some a)) :: st) S Q := by
  refine ty_heap row ?_ (k _ rfl)
  have h1 := ty_H_at (S := S) hp
  rw [ty_cell_l hs] at h1
  simp only [ai_heap, h1]
  rw [if_pos ⟨ht, by rw [hn]; exact ty_ix hi⟩, ty_J_nat (by omega), Int.toNat_of_nonneg hi.1]
/-- the script -/
theorem ty_script {i : Int} (row : gt_P.1 mi pc = some (3, .iaload, ks)) (hp : 0 < S.2.2.2.2.2.2.1 0) (hi : 0 ≤ i ∧ i < L ∧ i ≤ 2147483647) (k : ∀ v, (xs i.toNat).toInt = v → ty_W L xs d mi (pc + 1) ls (.inl (ty_J v) :: st) S Q) : ty_W L xs d mi pc ls (.inl (ty_J i) :: .inr (.inr (some (0, 0))) :: st) S Q := by
  refine ty_heap row ?_ (k _ rfl)
  have h1 := ty_H_at (S := S) (a := (0, 0)) hp
  have h2 : ty_cell S (0, 0) = .inr (.inr 0) := rfl
  rw [h2] at h1
  simp only [ai_heap, h1]
  rw [if_pos (ty_ix hi), ty_J_nat (by omega), ty_J_of]
theorem ty_upd {S : ty_S} {a : ai_A} {i v : Int} (hi : 0 ≤ i) : (fun j : Nat => ty_J ((ty_sA S a i v).2.2.1 a j)) = upd (fun j : Nat => ty_J (S.2.2.1 a j)) i.toNat (ty_J v) := by
  funext j
  by_cases e : j = i.toNat
  · have : (j : Int) = i := by omega
    simp [ty_sA, upd, e, Int.toNat_of_nonneg hi]
  · have : ¬ (j : Int) = i := by omega
    simp [ty_sA, upd, e, this]
theorem ty_put_a {t : Nat} {i v : Int} (hs : ty_sk a.1 = (2, t)) (hp : a.2 < S.2.2.2.2.2.2.1 a.1) (hi : 0 ≤ i) : ai_put (ty_H S) a (.inr (.inl (t, S.2.2.2.2.2.1 a, .inl (upd (fun j : Nat => ty_J (S.2.2.1 a j)) i.toNat (ty_J v))))) = ty_H (ty_sA S a i v) := by
  refine ty_put (S' := ty_sA S a i v) rfl hp ?_ (fun b hb => ty_cell_sA hb)
  rw [ty_cell_i hs, ty_upd hi]
  rfl
theorem ty_iastore {t n : Nat} {i v : Int} (row : gt_P.1 mi pc = some (3, .iastore, ks)) (hs : ty_sk a.1 = (2, t)) (ht : gt_tyL.getD t .float = .int) (hp : a.2 < S.2.2.2.2.2.2.1 a.1) (hn : S.2.2.2.2.2.1 a = n) (hi : 0 ≤ i ∧ i < n ∧ i ≤ 2147483647) (k : ty_W L xs d mi (pc + 1) ls st (ty_sA S a i v) Q) : ty_W L xs d mi pc ls (.inl (ty_J v) :: .inl (ty_J i) :: .inr (.inr (some a)) :: st) S Q := by
  refine ty_heap row ?_ k
  have h1 := ty_H_at (S := S) hp
  rw [ty_cell_i hs] at h1
  simp only [ai_heap, h1]
  rw [if_pos ⟨ht, by rw [hn]; exact ty_ix hi⟩, ty_J_nat (by omega), ty_put_a hs hp hi.1]
theorem ty_castore {t n : Nat} {i v : Int} (row : gt_P.1 mi pc = some (3, .castore, ks)) (hs : ty_sk a.1 = (2, t)) (ht : gt_tyL.getD t .float = .char) (hp : a.2 < S.2.2.2.2.2.2.1 a.1) (hn : S.2.2.2.2.2.1 a = n) (hi : 0 ≤ i ∧ i < n ∧ i ≤ 2147483647) (hv : 0 ≤ v ∧ v ≤ 65535) (k : ty_W L xs d mi (pc + 1) ls st (ty_sA S a i v) Q) : ty_W L xs d mi pc ls (.inl (ty_J v) :: .inl (ty_J i) :: .inr (.inr (some a)) :: st) S Q := by
  refine ty_heap row ?_ k
  have h1 := ty_H_at (S := S) hp
  rw [ty_cell_i hs] at h1
  simp only [ai_heap, h1]
  rw [if_pos ⟨ht, by rw [hn]; exact ty_ix hi⟩, ty_J_nat (by omega), ty_nar_c hv, ty_put_a hs hp hi.1]
theorem ty_bastore {t n : Nat} {i v : Int} (row : gt_P.1 mi pc = some (3, .bastore, ks)) (hs : ty_sk a.1 = (2, t)) (ht : gt_tyL.getD t .float = .boolean) (hp : a.2 < S.2.2.2.2.2.2.1 a.1) (hn : S.2.2.2.2.2.1 a = n) (hi : 0 ≤ i ∧ i < n ∧ i ≤ 2147483647) (hv : v = 0 ∨ v = 1) (k : ty_W L xs d mi (pc + 1) ls st (ty_sA S a i v) Q) : ty_W L xs d mi pc ls (.inl (ty_J v) :: .inl (ty_J i) :: .inr (.inr (some a)) :: st) S Q := by
  refine ty_heap row ?_ k
  have h1 := ty_H_at (S := S) hp
  rw [ty_cell_i hs] at h1
  simp only [ai_heap, h1]
  rw [if_pos ⟨ht, by rw [hn]; exact ty_ix hi⟩, ty_J_nat (by omega), ty_nar_z hv, ty_put_a hs hp hi.1]
theorem ty_lastore {n : Nat} {i : Int} {v : Int64} (row : gt_P.1 mi pc = some (3, .lastore, ks)) (ha : a = (95, 0)) (hp : a.2 < S.2.2.2.2.2.2.1 a.1) (h1s : S.2.2.2.2.2.2.1 95 = 1) (hn : S.2.2.2.2.2.1 a = n) (hi : 0 ≤ i ∧ i < n ∧ i ≤ 2147483647) (k : ty_W L xs d mi (pc + 1) ls st (ty_sZ S i v) Q) : ty_W L xs d mi pc ls (.inr (.inl v) :: .inl (ty_J i) :: .inr (.inr (some a)) :: st) S Q := by
  refine ty_heap row ?_ k
  subst ha
  have hs : ty_sk (95, 0).1 = (3, 3) := by decide +kernel
  have h1 := ty_H_at (S := S) hp
  rw [ty_cell_l hs] at h1
  simp only [ai_heap, h1]
  rw [if_pos ⟨by decide, by rw [hn]; exact ty_ix hi⟩, ty_J_nat (by omega)]
  congr 2
  refine ty_H_ext (S := S) (S' := ty_sZ S i v) (f := ai_upd (ty_H S).1 (95, 0) _) rfl (fun b => ?_)
  show (if b = (95, 0) then some _ else (ty_H S).1 b) = _
  by_cases e : b = (95, 0)
  · subst e
    rw [if_pos rfl, if_pos hp, ty_cell_l hs]
    have e9 : (fun j : Nat => (ty_sZ S i v).2.2.2.2.1 j) = vp_updL (fun j : Nat => S.2.2.2.2.1 j) i.toNat v := by
      funext j
      by_cases e : j = i.toNat
      · have : (j : Int) = i := by omega
        simp [ty_sZ, vp_updL, e, Int.toNat_of_nonneg hi.1]
      · have : ¬ (j : Int) = i := by omega
        simp [ty_sZ, vp_updL, e, this]
    rw [e9]
    rfl
  · rw [if_neg e]
    show (if b.2 < S.2.2.2.2.2.2.1 b.1 then some (ty_cell S b) else none) = _
    by_cases e3 : (ty_sk b.1).1 = 3
    · have h5 : ∀ s : Nat, (ty_sk s).1 = 3 → s = 95 := by
        intro s h
        have hl : s < ty_skL.length := by
          rcases Nat.lt_or_ge s ty_skL.length with q | q
          · exact q
          · exfalso
            have : ty_sk s = (0, 0) := by simp [ty_sk, List.getD_eq_getElem?_getD, List.getElem?_eq_none q]
            rw [this] at h
            cases h
        have hall : (List.range ty_skL.length).all (fun s => !decide ((ty_sk s).1 = 3) || decide (s = 95)) = true := by decide +kernel
        have := List.all_eq_true.mp hall s (List.mem_range.mpr hl)
        simp [h] at this
        exact this
      have hb := h5 _ e3
      rw [hb, h1s]
      by_cases e6 : b.2 < 1
      · exact absurd (Prod.ext hb (by show b.2 = 0; omega)) e
      · rw [if_neg e6, if_neg e6]
    · have : ty_cell (ty_sZ S i v) b = ty_cell S b := by
        unfold ty_cell
        split <;> first | rfl | (rename_i hh; rw [hh] at e3; exact absurd rfl e3) | (rw [ty_fl_eq (S := ty_sZ S i v) (S' := S) _ 0 (fun j _ => rfl) (fun j _ => rfl)])
      rw [this]
theorem ty_putq {t : Nat} {i : Int} {v : Option ai_A} (hs : ty_sk a.1 = (4, t)) (hp : a.2 < S.2.2.2.2.2.2.1 a.1) (hi : 0 ≤ i) : ai_put (ty_H S) a (.inr (.inl (t, S.2.2.2.2.2.1 a, .inr (.inr (va_up (fun j : Nat => S.2.2.2.1 a j) i.toNat v))))) = ty_H (ty_sQ S a i v) := by
  refine ty_put (S' := ty_sQ S a i v) rfl hp ?_ (fun b hb => ty_cell_sQ hb)
  rw [ty_cell_q hs]
  have e : (fun j : Nat => (ty_sQ S a i v).2.2.2.1 a j) = va_up (fun j : Nat => S.2.2.2.1 a j) i.toNat v := by
    funext j
    by_cases e : j = i.toNat
    · have : (j : Int) = i := by omega
      simp [ty_sQ, va_up, e, Int.toNat_of_nonneg hi]
    · have : ¬ (j : Int) = i := by omega
      simp [ty_sQ, va_up, e, this]
  rw [e]
  rfl
theorem ty_aastore {t n cj : Nat} {i : Int} {b : ai_A} (row : gt_P.1 mi pc = some (3, .aastore, ks)) (hs : ty_sk a.1 = (4, t)) (hp : a.2 < S.2.2.2.2.2.2.1 a.1) (hn : S.2.2.2.2.2.1 a = n) (hi : 0 ≤ i ∧ i < n ∧ i ≤ 2147483647) (hb : ty_sk b.1 = (1, cj)) (hbp : b.2 < S.2.2.2.2.2.2.1 b.1) (hg : gt_asg t cj = true) (k : ty_W L xs d mi (pc + 1) ls st (ty_sQ S a i (some b)) Q) : ty_W L xs d mi pc ls (.inr (.inr (some b)) :: .inl (ty_J i) :: .inr (.inr (some a)) :: st) S Q := by
  refine ty_heap row ?_ k
  have h1 := ty_H_at (S := S) hp
  rw [ty_cell_q hs] at h1
  have h2 := ty_H_at (S := S) hbp
  rw [ty_cell_o hb] at h2
  simp only [ai_heap, h1, h2]
  rw [if_pos ⟨hg, by rw [hn]; exact ty_ix hi⟩, ty_J_nat (by omega), ty_putq hs hp hi.1]
theorem ty_length {t n : Nat} (row : gt_P.1 mi pc = some (3, .arraylength, ks)) (hs : ty_sk a.1 = (2, t) ∨ ty_sk a.1 = (4, t)) (ht : gt_tyL.getD t .float ≠ .float) (hp : a.2 < S.2.2.2.2.2.2.1 a.1) (hn : S.2.2.2.2.2.1 a = n) (k : ty_W L xs d mi (pc + 1) ls (.inl (ty_J n) :: st) S Q) : ty_W L xs d mi pc ls (.inr (.inr (some a)) :: st) S Q := by
  refine ty_heap row ?_ k
  have h1 := ty_H_at (S := S) hp
  rcases hs with hs | hs
  · rw [ty_cell_i hs] at h1
    simp only [ai_heap, h1]
    rw [if_neg ht, hn, ty_J_ofNat]
  · rw [ty_cell_q hs] at h1
    simp only [ai_heap, h1]
    rw [if_neg ht, hn, ty_J_ofNat]
theorem ty_lengthS (row : gt_P.1 mi pc = some (3, .arraylength, ks)) (hp : 0 < S.2.2.2.2.2.2.1 0) (k : ty_W L xs d mi (pc + 1) ls (.inl (ty_J L) :: st) S Q) : ty_W L xs d mi pc ls (.inr (.inr (some (0, 0))) :: st) S Q := by
  refine ty_heap row ?_ k
  have h1 := ty_H_at (S := S) (a := (0, 0)) hp
  have h2 : ty_cell S (0, 0) = .inr (.inr 0) := rfl
  rw [h2] at h1
  simp only [ai_heap, h1, ty_J_ofNat]
theorem ty_lengthE (row : gt_P.1 mi pc = some (3, .arraylength, ks)) (hp : 1 < S.2.2.2.2.2.2.1 0) (k : ty_W L xs d mi (pc + 1) ls (.inl (ty_J 0) :: st) S Q) : ty_W L xs d mi pc ls (.inr (.inr (some (0, 1))) :: st) S Q := by
  refine ty_heap row ?_ k
  have h1 := ty_H_at (S := S) (a := (0, 1)) hp
  have h2 : ty_cell S (0, 1) = .inr (.inr 2) := rfl
  rw [h2] at h1
  simp only [ai_heap, h1, ty_J_zero]
def ty_df (r : Bool) : ai_V := if r = true then .inr (.inr none) else .inl 0
theorem ty_fl_new {S : ty_S} {a : ai_A} (h1 : ∀ k, S.1 a k = 0) (h2 : ∀ k, S.2.1 a k = none) : ∀ (ks : List Bool) (j : Nat), ty_fl S a j ks = ks.map ty_df
  | [], _ => rfl
  | b :: ks, j => by
    unfold ty_fl
    rw [h1, h2, ty_fl_new h1 h2 ks (j + 1), ty_J_zero]
    rfl
theorem ty_newO {idx ci s : Nat} (row : gt_P.1 mi pc = some (3, .new idx, [ci, s])) (hs : ty_sk s = (1, ci)) (hd : gt_dfl ci = (ty_kd ci).map ty_df) (k : ty_W L xs d mi (pc + 3) ls (.inr (.inr (some (s, S.2.2.2.2.2.2.1 s))) :: st) (ty_nO S s (ty_kd ci).length) Q) : ty_W L xs d mi pc ls st S Q := by
  refine ty_heap row ?_ k
  have e1 : ai_new (ty_H S) s (.inl (ci, gt_dfl ci)) (gt_dfl ci).length = ty_H (ty_nO S s (ty_kd ci).length) := by
    refine ty_new rfl ?_ ?_ (fun b hb => ty_cell_nO hb)
    · rw [hd, List.length_map]
      rfl
    · rw [ty_cell_o (a := (s, S.2.2.2.2.2.2.1 s)) hs, hd, ty_fl_new (fun k => by simp [ty_nO]) (fun k => by simp [ty_nO])]
  simp only [ai_heap]
  show (if ((ty_H S).1 (s, (ty_H S).2.1 s)).isNone = true then some (Sum.inr (Sum.inr (some (s, (ty_H S).2.1 s))) :: st, ai_new (ty_H S) s (.inl (ci, gt_dfl ci)) (gt_dfl ci).length) else none) = _
  rw [if_pos ty_none, e1]
  rfl
theorem ty_newA {at_ : ClassFile.ArrayType} {t s : Nat} {n : Int} (row : gt_P.1 mi pc = some (3, .newarray at_, [t, s])) (hs : ty_sk s = (2, t)) (ht : gt_tyL.getD t .float ≠ .long) (hn : 0 ≤ n ∧ n ≤ 67108864) (k : ty_W L xs d mi (pc + 2) ls (.inr (.inr (some (s, S.2.2.2.2.2.2.1 s))) :: st) (ty_nA S s n.toNat) Q) : ty_W L xs d mi pc ls (.inl (ty_J n) :: st) S Q := by
  refine ty_heap row ?_ k
  have e1 : ai_new (ty_H S) s (.inr (.inl (t, n.toNat, .inl fun _ => 0))) n.toNat = ty_H (ty_nA S s n.toNat) := by
    refine ty_new rfl rfl ?_ (fun b hb => ty_cell_nA hb (by rw [hs]; simp))
    rw [ty_cell_i (a := (s, S.2.2.2.2.2.2.1 s)) hs]
    simp [ty_nA, ty_J_zero]
  simp only [ai_heap]
  show (if ((ty_H S).1 (s, (ty_H S).2.1 s)).isNone = true ∧ ¬ ty_J n < 0 ∧ (ty_J n).toNatClampNeg * 8 ≤ 536870912 then some (Sum.inr (Sum.inr (some (s, (ty_H S).2.1 s))) :: st, ai_new (ty_H S) s (.inr (.inl (t, (ty_J n).toNatClampNeg, if gt_tyL.getD t .float = .long then .inr (.inl fun _ => 0) else .inl fun _ => 0))) (ty_J n).toNatClampNeg) else none) = _
  rw [if_pos ⟨ty_none, ty_J_nneg (by omega), by rw [ty_J_nat (by omega)]; omega⟩, if_neg ht, ty_J_nat (by omega), e1]
  rfl
theorem ty_newQ {idx t s : Nat} {n : Int} (row : gt_P.1 mi pc = some (3, .anewarray idx, [t, s])) (hs : ty_sk s = (4, t)) (hn : 0 ≤ n ∧ n ≤ 67108864) (k : ty_W L xs d mi (pc + 3) ls (.inr (.inr (some (s, S.2.2.2.2.2.2.1 s))) :: st) (ty_nA S s n.toNat) Q) : ty_W L xs d mi pc ls (.inl (ty_J n) :: st) S Q := by
  refine ty_heap row ?_ k
  have e1 : ai_new (ty_H S) s (.inr (.inl (t, n.toNat, .inr (.inr fun _ => none)))) n.toNat = ty_H (ty_nA S s n.toNat) := by
    refine ty_new rfl rfl ?_ (fun b hb => ty_cell_nA hb (by rw [hs]; simp))
    rw [ty_cell_q (a := (s, S.2.2.2.2.2.2.1 s)) hs]
    simp [ty_nA]
  simp only [ai_heap]
  show (if ((ty_H S).1 (s, (ty_H S).2.1 s)).isNone = true ∧ ¬ ty_J n < 0 ∧ (ty_J n).toNatClampNeg * 8 ≤ 536870912 then some (Sum.inr (Sum.inr (some (s, (ty_H S).2.1 s))) :: st, ai_new (ty_H S) s (.inr (.inl (t, (ty_J n).toNatClampNeg, .inr (.inr fun _ => none)))) (ty_J n).toNatClampNeg) else none) = _
  rw [if_pos ⟨ty_none, ty_J_nneg (by omega), by rw [ty_J_nat (by omega)]; omega⟩, ty_J_nat (by omega), e1]
  rfl
theorem ty_cast {idx ci : Nat} (row : gt_P.1 mi pc = some (3, .checkcast idx, [ci])) (hs : ty_sk a.1 = (1, ci)) (hp : a.2 < S.2.2.2.2.2.2.1 a.1) (k : ty_W L xs d mi (pc + 3) ls (.inr (.inr (some a)) :: st) S Q) : ty_W L xs d mi pc ls (.inr (.inr (some a)) :: st) S Q := by
  refine ty_heap row ?_ k
  have h1 := ty_H_at (S := S) hp
  rw [ty_cell_o hs] at h1
  simp only [ai_heap, h1]
  exact if_pos rfl
theorem ty_ldc {idx c : Nat} {z : Int} (row : gt_P.1 mi pc = some (3, .ldc idx, [c])) (hz : Int32.ofNat c = ty_J z) (k : ty_W L xs d mi (pc + 2) ls (.inl (ty_J z) :: st) S Q) : ty_W L xs d mi pc ls st S Q := by
  refine ty_heap row ?_ k
  rw [← hz]
  rfl
theorem ty_ldc_w {idx c : Nat} {z : Int} (row : gt_P.1 mi pc = some (3, .ldc_w idx, [c])) (hz : Int32.ofNat c = ty_J z) (k : ty_W L xs d mi (pc + 3) ls (.inl (ty_J z) :: st) S Q) : ty_W L xs d mi pc ls st S Q := by
  refine ty_heap row ?_ k
  rw [← hz]
  rfl
end TYH
