/-! Steps on stack, locals and counter alone. -/
theorem ai_ii_spec {f : Int32 → Int32 → Int32} {st st' : List ai_V} (h : ai_ii f st = some st') : ∃ x y r, st = .inl y :: .inl x :: r ∧ st' = .inl (f x y) :: r := by
  unfold ai_ii at h
  split at h
  · cases h
    exact ⟨_, _, _, rfl, rfl⟩
  · cases h
theorem ai_ll_spec {f : Int64 → Int64 → Int64} {st st' : List ai_V} (h : ai_ll f st = some st') : ∃ x y r, st = .inr (.inl y) :: .inr (.inl x) :: r ∧ st' = .inr (.inl (f x y)) :: r := by
  unfold ai_ll at h
  split at h
  · cases h
    exact ⟨_, _, _, rfl, rfl⟩
  · cases h
theorem ai_li_spec {f : Int64 → Int32 → Int64} {st st' : List ai_V} (h : ai_li f st = some st') : ∃ x y r, st = .inl y :: .inr (.inl x) :: r ∧ st' = .inr (.inl (f x y)) :: r := by
  unfold ai_li at h
  split at h
  · cases h
    exact ⟨_, _, _, rfl, rfl⟩
  · cases h
section AI1
variable {p : Program} {l : Launch} {e : Env} {R : Room} {s : State} {m : MethodId} {args : Array Value} {below : List Frame} {meth : Method} {c : Code} {H : Heap} {locs : List Loc} {cells slots : Nat} {Q : State → Prop}
variable {cc : ByteArray} {pc : Nat} {lsA : Array Slot} {ρ : ai_A → Nat}
set_option maxHeartbeats 4000000 in
theorem ai_pure_W (hx : p.tables.exec = Jvm.exec) (hb : c.code = cc) {ins : Instr} {st st' : List ai_V} (hp : ai_pure ins st = some st') (hd : decode cc pc = .ok (ins, ai_len ins))
    (k : W p l e R s m args below meth c H locs cells slots Q (F0 m (pc + ai_len ins) lsA (st'.map (ai_v ρ)))) : W p l e R s m args below meth c H locs cells slots Q (F0 m pc lsA (st.map (ai_v ρ))) := by
  cases ins
  case iconst n =>
    cases hp
    exact lv_iconst hx hb hd rfl k
  case bipush n =>
    cases hp
    exact lv_bipush hx hb hd rfl k
  case sipush n =>
    cases hp
    exact lv_sipush hx hb hd rfl k
  case lconst n =>
    cases hp
    exact lv_lconst hx hb hd rfl k
  case aconst_null =>
    cases hp
    exact lv_null hx hb hd k
  case dup =>
    simp only [ai_pure] at hp
    split at hp
    · split at hp
      · cases hp
      · rename_i h2
        cases hp
        exact lv_dup hx hb hd (ai_cat1 (by simpa using h2)) k
    · cases hp
  case dup_x1 =>
    simp only [ai_pure] at hp
    split at hp
    · split at hp
      · cases hp
      · rename_i h2
        cases hp
        simp only [Bool.or_eq_true, not_or, Bool.not_eq_true] at h2
        exact lv_dup_x1 hx hb hd (ai_cat1 h2.1) (ai_cat1 h2.2) k
    · cases hp
  case dup_x2 =>
    simp only [ai_pure] at hp
    split at hp
    · split at hp
      · cases hp
      · rename_i h2
        cases hp
        simp only [Bool.or_eq_true, not_or, Bool.not_eq_true] at h2
        exact lv_dup_x2 hx hb hd (ai_cat1 h2.1.1) (ai_cat1 h2.1.2) (ai_cat1 h2.2) k
    · cases hp
  case dup2 =>
    simp only [ai_pure] at hp
    split at hp
    · split at hp
      · cases hp
      · rename_i h2
        cases hp
        simp only [Bool.or_eq_true, not_or, Bool.not_eq_true] at h2
        exact lv_dup2_11 hx hb hd (ai_cat1 h2.1) (ai_cat1 h2.2) k
    · cases hp
  case pop =>
    simp only [ai_pure] at hp
    split at hp
    · split at hp
      · cases hp
      · rename_i h2
        cases hp
        exact lv_pop hx hb hd (ai_cat1 (by simpa using h2)) k
    · cases hp
  case iadd =>
    obtain ⟨x, y, r, rfl, rfl⟩ := ai_ii_spec hp
    exact lv_iadd hx hb hd k
  case isub =>
    obtain ⟨x, y, r, rfl, rfl⟩ := ai_ii_spec hp
    exact lv_isub hx hb hd k
  case imul =>
    obtain ⟨x, y, r, rfl, rfl⟩ := ai_ii_spec hp
    exact lv_imul hx hb hd k
  case iand =>
    obtain ⟨x, y, r, rfl, rfl⟩ := ai_ii_spec hp
    exact lv_iand hx hb hd k
  case ior =>
    obtain ⟨x, y, r, rfl, rfl⟩ := ai_ii_spec hp
    exact lv_ior hx hb hd k
  case ixor =>
    obtain ⟨x, y, r, rfl, rfl⟩ := ai_ii_spec hp
    exact lv_ixor hx hb hd k
  case ishl =>
    obtain ⟨x, y, r, rfl, rfl⟩ := ai_ii_spec hp
    exact lv_ishl hx hb hd k
  case ishr =>
    obtain ⟨x, y, r, rfl, rfl⟩ := ai_ii_spec hp
    exact lv_ishr hx hb hd k
  case iushr =>
    obtain ⟨x, y, r, rfl, rfl⟩ := ai_ii_spec hp
    exact lv_iushr hx hb hd rfl k
  case idiv =>
    simp only [ai_pure] at hp
    split at hp
    · split at hp
      · cases hp
      · rename_i h2
        cases hp
        exact lv_idiv hx hb hd h2 k
    · cases hp
  case irem =>
    simp only [ai_pure] at hp
    split at hp
    · split at hp
      · cases hp
      · rename_i h2
        cases hp
        exact lv_irem hx hb hd h2 k
    · cases hp
  case ineg =>
    simp only [ai_pure] at hp
    split at hp
    · cases hp
      exact lv_ineg hx hb hd k
    · cases hp
  case ladd =>
    obtain ⟨x, y, r, rfl, rfl⟩ := ai_ll_spec hp
    exact lv_ladd hx hb hd k
  case lsub =>
    obtain ⟨x, y, r, rfl, rfl⟩ := ai_ll_spec hp
    exact lv_lsub hx hb hd k
  case land =>
    obtain ⟨x, y, r, rfl, rfl⟩ := ai_ll_spec hp
    exact lv_land hx hb hd k
  case lor =>
    obtain ⟨x, y, r, rfl, rfl⟩ := ai_ll_spec hp
    exact lv_lor hx hb hd k
  case lxor =>
    obtain ⟨x, y, r, rfl, rfl⟩ := ai_ll_spec hp
    exact lv_lxor hx hb hd k
  case lshl =>
    obtain ⟨x, y, r, rfl, rfl⟩ := ai_li_spec hp
    exact lv_lshl hx hb hd rfl k
  case lushr =>
    obtain ⟨x, y, r, rfl, rfl⟩ := ai_li_spec hp
    exact lv_lushr hx hb hd rfl k
  case i2l =>
    simp only [ai_pure] at hp
    split at hp
    · cases hp
      exact lv_i2l hx hb hd rfl k
    · cases hp
  case l2i =>
    simp only [ai_pure] at hp
    split at hp
    · cases hp
      exact lv_l2i hx hb hd rfl k
    · cases hp
  case i2c =>
    simp only [ai_pure] at hp
    split at hp
    · cases hp
      exact lv_i2c hx hb hd rfl k
    · cases hp
  case lcmp =>
    simp only [ai_pure] at hp
    split at hp
    · cases hp
      exact W.lcmp hx hb hd k
    · cases hp
  all_goals (simp [ai_pure] at hp)
/-- the length of a row's instruction: any for switches -/
def ai_lok (ins : Instr) (len : Nat) : Bool := match ins with
  | .tableswitch _ _ _ _ => true
  | .lookupswitch _ _ => true
  | _ => len == ai_len ins
theorem ai_lk_spec {pc : Nat} {x : Int} {d : Int} {dt : Nat} (hd : (pc : Int) + d = (dt : Nat)) : ∀ (ps : List (Int × Int)) (ts : List Nat), ts.length = ps.length → (∀ j, j < ps.length → (pc : Int) + (ps.getD j (0, 0)).2 = (ts.getD j 0 : Nat)) → (pc : Int) + Op.lookupswitch.offset ps d x = (ai_lk x dt ps ts : Nat) := by
  intro ps
  induction ps with
  | nil =>
    intro ts _ _
    cases ts <;> simpa [ai_lk, Op.lookupswitch.offset] using hd
  | cons q ps ih =>
    intro ts hl ht
    obtain ⟨k, o⟩ := q
    cases ts with
    | nil => simp at hl
    | cons t ts =>
      rw [Op.lookupswitch.offset_cons]
      have h0 := ht 0 (by simp)
      by_cases hk : x = k
      · rw [if_pos hk.symm]
        simpa [ai_lk, hk] using h0
      · rw [if_neg (fun q => hk q.symm)]
        have := ih ts (by simpa using hl) (fun j hj => by simpa using ht (j + 1) (by simpa using hj))
        simpa [ai_lk, hk] using this
set_option maxHeartbeats 4000000 in
theorem ai_jmp_W (hx : p.tables.exec = Jvm.exec) (hb : c.code = cc) {ins : Instr} {len pc' : Nat} {ks : List Nat} {st st' : List ai_V} (hp : ai_jmp ins pc ks st = some (pc', st')) (hok : ai_jok ins pc ks) (hd : decode cc pc = .ok (ins, len)) (hlen : ai_lok ins len = true)
    (k : W p l e R s m args below meth c H locs cells slots Q (F0 m pc' lsA (st'.map (ai_v ρ)))) : W p l e R s m args below meth c H locs cells slots Q (F0 m pc lsA (st.map (ai_v ρ))) := by
  cases ins
  case goto off =>
    have hl : len = 3 := by simpa [ai_lok, ai_len] using hlen
    subst hl
    cases hp
    exact lv_goto hx hb hd hok k
  case ifCond q off =>
    have hl : len = 3 := by simpa [ai_lok, ai_len] using hlen
    subst hl
    simp only [ai_jmp] at hp
    split at hp
    · cases hp
      cases q
      · refine lv_if_eq hx hb hd hok (fun z => ?_) (fun z => ?_)
        · rw [if_pos (by simp [ai_cmp, z])] at k; exact k
        · rw [if_neg (by simp [ai_cmp, z])] at k; exact k
      · refine lv_if_ne hx hb hd hok (fun z => ?_) (fun z => ?_)
        · rw [if_pos (by simp [ai_cmp, z])] at k; exact k
        · rw [if_neg (by simp [ai_cmp, z])] at k; exact k
      · refine lv_if_lt hx hb hd hok (fun z => ?_) (fun z => ?_)
        · rw [if_pos (by simpa [ai_cmp] using z)] at k; exact k
        · rw [if_neg (by simpa [ai_cmp] using z)] at k; exact k
      · refine lv_if_ge hx hb hd hok (fun z => ?_) (fun z => ?_)
        · rw [if_pos (by simpa [ai_cmp] using z)] at k; exact k
        · rw [if_neg (by simpa [ai_cmp] using z)] at k; exact k
      · refine lv_if_gt hx hb hd hok (fun z => ?_) (fun z => ?_)
        · rw [if_pos (by simpa [ai_cmp] using z)] at k; exact k
        · rw [if_neg (by simpa [ai_cmp] using z)] at k; exact k
      · refine lv_if_le hx hb hd hok (fun z => ?_) (fun z => ?_)
        · rw [if_pos (by simpa [ai_cmp] using z)] at k; exact k
        · rw [if_neg (by simpa [ai_cmp] using z)] at k; exact k
    · cases hp
  case if_icmp q off =>
    have hl : len = 3 := by simpa [ai_lok, ai_len] using hlen
    subst hl
    simp only [ai_jmp] at hp
    split at hp
    · cases hp
      cases q
      · refine lv_icmp_eq hx hb hd hok (fun z => ?_) (fun z => ?_)
        · rw [if_pos (by simp [ai_cmp, z])] at k; exact k
        · rw [if_neg (by simp [ai_cmp, z])] at k; exact k
      · refine lv_icmp_ne hx hb hd hok (fun z => ?_) (fun z => ?_)
        · rw [if_pos (by simp [ai_cmp, z])] at k; exact k
        · rw [if_neg (by simp [ai_cmp, z])] at k; exact k
      · refine lv_icmp_lt hx hb hd hok (fun z => ?_) (fun z => ?_)
        · rw [if_pos (by simpa [ai_cmp] using z)] at k; exact k
        · rw [if_neg (by simpa [ai_cmp] using z)] at k; exact k
      · refine lv_icmp_ge hx hb hd hok (fun z => ?_) (fun z => ?_)
        · rw [if_pos (by simpa [ai_cmp] using z)] at k; exact k
        · rw [if_neg (by simpa [ai_cmp] using z)] at k; exact k
      · refine lv_icmp_gt hx hb hd hok (fun z => ?_) (fun z => ?_)
        · rw [if_pos (by simpa [ai_cmp] using z)] at k; exact k
        · rw [if_neg (by simpa [ai_cmp] using z)] at k; exact k
      · refine lv_icmp_le hx hb hd hok (fun z => ?_) (fun z => ?_)
        · rw [if_pos (by simpa [ai_cmp] using z)] at k; exact k
        · rw [if_neg (by simpa [ai_cmp] using z)] at k; exact k
    · cases hp
  case ifnull off =>
    have hl : len = 3 := by simpa [ai_lok, ai_len] using hlen
    subst hl
    simp only [ai_jmp] at hp
    split at hp
    · cases hp
      exact lv_ifnullN hx hb hd hok k
    · cases hp
      exact lv_ifnull hx hb hd k
    · cases hp
  case ifnonnull off =>
    have hl : len = 3 := by simpa [ai_lok, ai_len] using hlen
    subst hl
    simp only [ai_jmp] at hp
    split at hp
    · cases hp
      exact lv_ifnonnullN hx hb hd k
    · cases hp
      exact lv_ifnonnull hx hb hd hok k
    · cases hp
  case tableswitch d lo hi offs =>
    simp only [ai_jmp] at hp
    split at hp
    · rename_i x r
      cases hp
      obtain ⟨h1, h2⟩ := hok
      by_cases hc : x.toInt < lo ∨ hi < x.toInt
      · rw [if_pos hc] at k
        exact lv_tableOut hx hb hd hc h1 k
      · rw [if_neg hc] at k
        obtain ⟨off, ho, ht⟩ := h2 (x.toInt - lo).toNat (by omega)
        exact lv_tableIn hx hb hd (fun z => hc (Or.inl z)) (fun z => hc (Or.inr z)) ho ht k
    · cases hp
  case lookupswitch d ps =>
    simp only [ai_jmp] at hp
    split at hp
    · rename_i x r
      cases hp
      obtain ⟨h0, h1, h2, h3⟩ := hok
      refine lv_lookup hx hb hd h0 rfl (ai_lk_spec h1 _ _ (by rw [List.length_drop, h2]; omega) (fun j hj => ?_)) k
      have := h3 j hj
      rw [this]
      congr 1
      simp [List.getD_eq_getElem?_getD, List.getElem?_drop, Nat.add_comm]
    · cases hp
  all_goals (simp [ai_jmp] at hp)
theorem ai_lr.get {ls : ai_L} {i : Nat} {v : ai_V} (h : ai_lr ρ ls lsA) (hi : ls[i]? = some (some v)) : lsA[i]? = some (.val (ai_v ρ v)) := by
  obtain ⟨lv, h1, h2⟩ := h
  exact h1.2.2 _ (h2 i v hi)
set_option maxHeartbeats 4000000 in
theorem ai_loc_W (hx : p.tables.exec = Jvm.exec) (hb : c.code = cc) {ins : Instr} {ls ls' : ai_L} {st st' : List ai_V} (hp : ai_loc ins ls st = some (ls', st')) (hd : decode cc pc = .ok (ins, ai_len ins)) (hl : ai_lr ρ ls lsA)
    (k : ∀ lsB : Array Slot, ai_lr ρ ls' lsB → W p l e R s m args below meth c H locs cells slots Q (F0 m (pc + ai_len ins) lsB (st'.map (ai_v ρ)))) : W p l e R s m args below meth c H locs cells slots Q (F0 m pc lsA (st.map (ai_v ρ))) := by
  cases ins
  case iload i =>
    simp only [ai_loc] at hp
    split at hp
    · rename_i x hi
      cases hp
      exact lv_iload hx hb hd (hl.get hi) (k _ hl)
    · cases hp
  case iload_n n =>
    simp only [ai_loc] at hp
    split at hp
    · rename_i x hi
      cases hp
      exact lv_iload_n hx hb hd rfl (hl.get hi) (k _ hl)
    · cases hp
  case lload i =>
    simp only [ai_loc] at hp
    split at hp
    · rename_i x hi
      cases hp
      exact lv_lload hx hb hd (hl.get hi) (k _ hl)
    · cases hp
  case lload_n n =>
    simp only [ai_loc] at hp
    split at hp
    · rename_i x hi
      cases hp
      exact lv_lload_n hx hb hd rfl (hl.get hi) (k _ hl)
    · cases hp
  case aload i =>
    simp only [ai_loc] at hp
    split at hp
    · rename_i x hi
      cases hp
      cases x with
      | none => exact lv_aloadN hx hb hd (hl.get hi) (k _ hl)
      | some a => exact lv_aload hx hb hd (hl.get hi) (k _ hl)
    · cases hp
  case aload_n n =>
    simp only [ai_loc] at hp
    split at hp
    · rename_i x hi
      cases hp
      cases x with
      | none => exact lv_aload_nN hx hb hd rfl (hl.get hi) (k _ hl)
      | some a => exact lv_aload_n hx hb hd rfl (hl.get hi) (k _ hl)
    · cases hp
  case istore i =>
    simp only [ai_loc] at hp
    split at hp
    · rename_i x r
      obtain ⟨q, hq, hz⟩ := Option.map_eq_some_iff.mp hp
      cases hz
      obtain ⟨lv, h1, h2⟩ := hl
      have hi : i < ls.length := by
        unfold ai_st1 at hq
        split at hq
        · rename_i z; exact z.1
        · cases hq
      exact lv_istore hx hb hd h1 hi rfl (fun lsB hB => k lsB (ai_lr.set1 hq h2 hB))
    · cases hp
  case istore_n n =>
    simp only [ai_loc] at hp
    split at hp
    · rename_i x r
      obtain ⟨q, hq, hz⟩ := Option.map_eq_some_iff.mp hp
      cases hz
      obtain ⟨lv, h1, h2⟩ := hl
      have hi : (n : Nat) < ls.length := by
        unfold ai_st1 at hq
        split at hq
        · rename_i z; exact z.1
        · cases hq
      exact lv_istore_n hx hb hd rfl h1 hi rfl (fun lsB hB => k lsB (ai_lr.set1 hq h2 hB))
    · cases hp
  case lstore i =>
    simp only [ai_loc] at hp
    split at hp
    · rename_i x r
      obtain ⟨q, hq, hz⟩ := Option.map_eq_some_iff.mp hp
      cases hz
      obtain ⟨lv, h1, h2⟩ := hl
      have hi : i + 1 < ls.length := by
        unfold ai_st2 at hq
        split at hq
        · rename_i z; exact z.1
        · cases hq
      exact lv_lstore hx hb hd h1 hi rfl (fun lsB hB => k lsB (ai_lr.set2 hq h2 hB))
    · cases hp
  case lstore_n n =>
    simp only [ai_loc] at hp
    split at hp
    · rename_i x r
      obtain ⟨q, hq, hz⟩ := Option.map_eq_some_iff.mp hp
      cases hz
      obtain ⟨lv, h1, h2⟩ := hl
      have hi : (n : Nat) + 1 < ls.length := by
        unfold ai_st2 at hq
        split at hq
        · rename_i z; exact z.1
        · cases hq
      exact lv_lstore_n hx hb hd rfl h1 hi rfl (fun lsB hB => k lsB (ai_lr.set2 hq h2 hB))
    · cases hp
  case astore i =>
    simp only [ai_loc] at hp
    split at hp
    · rename_i x r
      obtain ⟨q, hq, hz⟩ := Option.map_eq_some_iff.mp hp
      cases hz
      obtain ⟨lv, h1, h2⟩ := hl
      have hi : i < ls.length := by
        unfold ai_st1 at hq
        split at hq
        · rename_i z; exact z.1
        · cases hq
      cases x with
      | none => exact lv_astoreN hx hb hd h1 hi rfl (fun lsB hB => k lsB (ai_lr.set1 hq h2 hB))
      | some a => exact lv_astore hx hb hd h1 hi rfl (fun lsB hB => k lsB (ai_lr.set1 hq h2 hB))
    · cases hp
  case astore_n n =>
    simp only [ai_loc] at hp
    split at hp
    · rename_i x r
      obtain ⟨q, hq, hz⟩ := Option.map_eq_some_iff.mp hp
      cases hz
      obtain ⟨lv, h1, h2⟩ := hl
      have hi : (n : Nat) < ls.length := by
        unfold ai_st1 at hq
        split at hq
        · rename_i z; exact z.1
        · cases hq
      cases x with
      | none => exact lv_astore_nN hx hb hd rfl h1 hi rfl (fun lsB hB => k lsB (ai_lr.set1 hq h2 hB))
      | some a => exact lv_astore_n hx hb hd rfl h1 hi rfl (fun lsB hB => k lsB (ai_lr.set1 hq h2 hB))
    · cases hp
  case iinc i n =>
    simp only [ai_loc] at hp
    split at hp
    · rename_i x hi
      obtain ⟨q, hq, hz⟩ := Option.map_eq_some_iff.mp hp
      cases hz
      obtain ⟨lv, h1, h2⟩ := hl
      have hn : i < ls.length := (List.getElem?_eq_some_iff.mp hi).1
      obtain ⟨j, hj⟩ := List.getElem?_of_mem (h2 i _ hi)
      exact lv_iinc hx hb hd h1 (k := j) hj rfl hn rfl (fun lsB hB => k lsB (ai_lr.set1 hq h2 hB))
    · cases hp
  all_goals (simp [ai_loc] at hp)
end AI1
