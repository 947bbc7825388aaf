/-! THE CLAIM OUT OF ONE WALK OF THE LAW'S BODY. Your part is whole_start (and what it stands on); all else here is the same for every law, but numbers. -/
def R_law : String := "GoalDeskLaw"
def lw_P (b : Addr) (xs : List Int32) (args : Array Value) (s : State) : Prop := args = #[.ref b] ∧ s.IntsAt b xs ∧ xs.length ≤ 1536 ∧ (Jvm.Cond.and given_1 narrow_1).before args s = true
def lw_Q (_ : Array Value) (s : State) (o : Outcome) (t : State) : Prop := o = .returned (some (.int 1)) ∧ Framed s o t [] 601024 7293034
def lw_Z (below : List Frame) (a : Array Value) (s : State) : State → Prop := fun t => ∃ o, t.status = .running ∧ Ended t below o ∧ lw_Q a s o t
/-- the law's own end, with 1 on the stack, nothing written that was there before, its room as the claim has it -/
theorem lw_ret {p : Program} {l : Launch} {e : Env} {s : State} {m : MethodId} {below : List Frame} {meth : Method} {c : Code} {b : Nat} (hx : p.tables.exec = Jvm.exec) (hb : c.code = code) (hr : meth.sig.returnType = ret) (hlocks : meth.locks = false) {pc : Nat} {H : Heap} {ls : Array Slot} (hdg : decode code pc = .ok (.ireturn, 1)) : W p l e room_1 s m #[Value.ref b] below meth c H [] 601024 7293034 (lw_Z below #[Value.ref b] s) (F0 m pc ls [.int 1]) := by
  intro T hT X
  obtain ⟨fs, hret, hrun, hended, hW, hframe⟩ := X.leave (v := some (.int 1)) (hlocks := hlocks) (fun h => by rw [hr] at h; cases h)
  have hmeth' : T.vm.method? m = some meth := X.method'
  refine ⟨T.setFrames fs, ?_, .returned (some (.int 1)), hrun, hended, rfl, ⟨_, rfl⟩, hW, hframe⟩
  jvm_step X.here [X.here.top, hx, hb, hdg, hmeth', hr, ret, narrow_b1]
  (try refine ⟨rfl, ?_⟩); (try refine ⟨rfl, ?_⟩)
  first | (intro acts; rw [hret _ acts rfl rfl rfl]) | rw [hret _ _ rfl rfl rfl]
  exact Steps.refl _
/-- what holds at the law's entry: the machine, the code, the tables' words (any of lw_tbl by 'hts w (by decide +kernel)'), the script of L ints xs at the cell b, what the Statement gives of the start (any of its parts by flat_of_before) -/
def lw_At (p : Program) (s : State) (m : MethodId) (meth : Method) (c : Code) (b L : Nat) (xs : Nat → Int32) : Prop :=
  p.tables.exec = Jvm.exec ∧ c.code = code ∧ meth.sig.returnType = ret ∧ c.maxLocals = 7 ∧ s.vm.findClass R_law = some m.cls ∧ (∀ w ∈ lw_tbl, w.before #[Value.ref b] s = true) ∧ va_X b L xs s s.heap ∧ b < s.heap.size ∧ meth.locks = false ∧ (Jvm.Cond.and given_1 narrow_1).before #[Value.ref b] s = true
/-- the law's rows -/
theorem ws_rows : ∀ pc r, gt_P.1 150 pc = some r → ai_rok gt_Ts gt_cl gt_P gt_M gt_ex 150 x code [] pc r :=
  ai_rows_ok gt_FH gt_FO (o := 12) (ini := false) (fun z => by cases z) (by decide +kernel) (fun pc _ => gt_hnil (by decide +kernel)) (fun _ => rfl) gt_r150
theorem ws_sw {C n d : String} {b : Nat} {s : State} {args : Array Value} (hl : (Cond.laysStatic C n d).before args s = true) (h : (Cond.isRef (.static C n d)).before args s = true) (hb : s.heap.size ≤ b) : ai_Sw C n d b s := by
  obtain ⟨c, k, i, f, a, cell, hc, hi, hst, ha, hcell, hs, hcls, hlt, hty⟩ := Cond.laysStatic_spec hl
  obtain ⟨v, hv, hr⟩ := Cond.isRef_spec h
  obtain ⟨hst', a', cell', ha', hcell', -, hslot⟩ := Term.static_spec hi hv
  cases ha.symm.trans ha'
  cases hcell.symm.trans hcell'
  exact ⟨c, k, i, f, a, cell, v, hc, hi, hst, ha, hcell, hs, hcls, hlt, hty, Nat.lt_of_lt_of_le (Array.getElem?_eq_some_iff.mp hcell).1 hb, hslot, hr⟩
/-- what there is at the law's beginning -/
def ws_h : ai_H := ty_H (tk [] [] [] [] 0)
theorem ws_h_at {a : ai_A} {y : ai_C} (h : ws_h.1 a = some y) : a.1 = 0 ∧ a.2 < 3 ∧ y = .inr (.inr (ty_op a.2)) := by
  obtain ⟨s, i⟩ := a
  have h : (if i < tk_M [] s then some (ty_cell (tk [] [] [] [] 0) (s, i)) else none) = some y := h
  unfold tk_M at h
  by_cases e : s = 0
  · subst e
    rw [if_pos rfl] at h
    by_cases e2 : i < 3 + List.count 0 []
    · rw [if_pos e2] at h
      cases h
      exact ⟨rfl, e2, rfl⟩
    · rw [if_neg e2] at h
      cases h
  · rw [if_neg e, if_neg (by simp)] at h
    cases h
/-- the room -/
theorem ws_room {S : ty_S} {L th : Nat} (hL : L ≤ 1536) (hth : 3 * th ≤ L) (h : cs_I S (fin_S.2.2.2.2.2.2.2.1, fin_S.2.2.2.2.2.2.2.2) th) : S.2.2.2.2.2.2.2.1 ≤ 601024 ∧ S.2.2.2.2.2.2.2.2 ≤ 7293034 := by
  obtain ⟨B, F, E, n, D1, n1, c1, D2, n2, c2, -, -, hLs, h1, h2, hk, -, h3⟩ := h
  obtain ⟨g1, g2, -⟩ := hLs
  have k1 := g1.2.2.2.1
  have k2 := g2.2.2.2.1
  have e1 : fin_S.2.2.2.2.2.2.2.1 ≤ 1000 := by decide +kernel
  have e2 : fin_S.2.2.2.2.2.2.2.2 ≤ 1000000 := by decide +kernel
  unfold cs_k at hk
  simp only at hk
  omega
theorem ws_int {ins : Instr} {x : Int32} (h : ai_ret ins (gt_P.2.2.1 150).2 [.inl x] = some (some (.inl x))) : ins = .ireturn := by
  cases ins <;> first | rfl | (simp [ai_ret] at h; done) | (exfalso; revert h; simp [ai_ret])
set_option maxHeartbeats 4000000 in
/-- YOUR PART: from the entry, for every script of at most 1536 ints, the law comes to its end with true -/
theorem whole_start {p : Program} {e : Env} {s : State} {m : MethodId} {below : List Frame} {meth : Method} {c : Code} (l : Launch) (hl : l.stackTraces = false) {b L : Nat} {xs : Nat → Int32} (hL : L ≤ 1536) (C0 : lw_At p s m meth c b L xs) (hname : meth.name = x.name) (htab : c.exceptionTable.isEmpty = true) : W p l e room_1 s m #[Value.ref b] below meth c s.heap [] 0 0 (lw_Z below #[Value.ref b] s) (entryFrame m ([Value.ref b] : List Value).toArray 7) := by
  obtain ⟨hx, hb, hr, hml, hown, hts, hX, hbl, hlocks, hgv⟩ := id C0
  have hg := flat_of_before _ hgv
  have hTs : ∀ w ∈ gt_Ts, w.before #[Value.ref b] s = true := by
    intro w hw
    rcases List.mem_append.mp hw with z | z
    · exact hts w (List.mem_filter.mp z).1
    · simp only [gt_X, List.mem_cons, List.not_mem_nil, or_false] at z
      rcases z with rfl | rfl | rfl | rfl | rfl | rfl <;> exact hg _ (by decide +kernel)
  have hA : ∀ a : Nat, a < s.heap.size → ¬ s.heap.size ≤ a := fun a h => Nat.not_le.mpr h
  -- the classes
  have hC : ∀ k : Nat, ∃ (cC : ClassId) (iS : Nat → Nat), ∀ q, gt_cl[k]? = some q → u_Kn s q.1 q.2.1 q.2.2 cC iS := by
    intro k
    cases hk : gt_cl[k]? with
    | none => exact ⟨0, fun _ => 0, fun q hq => by cases hq⟩
    | some q =>
      obtain ⟨C, T, N⟩ := q
      have hi : ∃ n, Cond.instantiable C n ∈ gt_Ts := by
        have hlt : k < 14 := (List.getElem?_eq_some_iff.mp hk).1
        have := List.all_eq_true.mp (show gt_cl.all (fun q => gt_Ts.contains (Cond.instantiable q.1 q.2.2)) = true by decide +kernel) _ (List.mem_of_getElem? hk)
        exact ⟨N, List.contains_iff_mem.mp this⟩
      obtain ⟨n, hn⟩ := hi
      obtain ⟨cC, iS, h⟩ := u_known (C := C) (T := T) (N := N) (n := n) hTs ((gt_clok k C T N hk).1) (hTs _ hn)
      exact ⟨cC, iS, fun q hq => by cases hq; exact h⟩
  have hAr : ∀ t : Nat, ∃ cA : ClassId, t < gt_tyL.length → ArrOfT s cA (gt_tyL.getD t .float) ∧ va_RA s cA (gt_tyL.getD t .float) := by
    have prim : ∀ ty : FieldType, Cond.arrayClass ty ∈ gt_Ts → (∀ (cA : ClassId), s.vm.findClass ("[" ++ ty.toString) = some cA → va_RA s cA ty) → ∃ cA : ClassId, ArrOfT s cA ty ∧ va_RA s cA ty := by
      intro ty h1 h2
      obtain ⟨cA, kA, comp, f1, f2, f3⟩ := Cond.arrayClass_spec (hTs _ h1)
      exact ⟨cA, fun n z => ⟨fun k h => (by cases h), kA, f2, comp, f3⟩, h2 cA f1⟩
    have obj : ∀ C : String, Cond.arrayOver (.object C) ∈ gt_Ts → ∃ cA : ClassId, ArrOfT s cA (.object C) ∧ va_RA s cA (.object C) := by
      intro C h1
      obtain ⟨comp, cA, kA, f1, f2, f3, f4, f5⟩ := Cond.arrayOver_spec (hTs _ h1)
      exact ⟨cA, fun n z => ⟨fun k h => (by cases h), kA, f3, comp, f4⟩, kA, comp, f3, f4, f1, f5⟩
    intro t
    match t with
    | 0 => obtain ⟨cA, h⟩ := prim .int (List.contains_iff_mem.mp (by decide +kernel)) (fun _ z => z); exact ⟨cA, fun _ => h⟩
    | 1 => obtain ⟨cA, h⟩ := prim .char (List.contains_iff_mem.mp (by decide +kernel)) (fun _ z => z); exact ⟨cA, fun _ => h⟩
    | 2 => obtain ⟨cA, h⟩ := prim .boolean (List.contains_iff_mem.mp (by decide +kernel)) (fun _ z => z); exact ⟨cA, fun _ => h⟩
    | 3 => obtain ⟨cA, h⟩ := prim .long (List.contains_iff_mem.mp (by decide +kernel)) (fun _ z => z); exact ⟨cA, fun _ => h⟩
    | 4 => obtain ⟨cA, h⟩ := obj "GoalDesk$Clause" (List.contains_iff_mem.mp (by decide +kernel)); exact ⟨cA, fun _ => h⟩
    | 5 => obtain ⟨cA, h⟩ := obj "java/lang/Object" (List.contains_iff_mem.mp (by decide +kernel)); exact ⟨cA, fun _ => h⟩
    | n + 6 => exact ⟨0, fun h => absurd h (by show ¬ n + 6 < 6; omega)⟩
  obtain ⟨dC, dI, hKc⟩ : ∃ (dC : Nat → ClassId) (dI : Nat → Nat → Nat), ∀ (k : Nat) (q : vw_C), gt_cl[k]? = some q → u_Kn s q.1 q.2.1 q.2.2 (dC k) (dI k) := ⟨fun k => (hC k).choose, fun k => (hC k).choose_spec.choose, fun k q hq => (hC k).choose_spec.choose_spec q hq⟩
  obtain ⟨dA, hdA⟩ : ∃ dA : Nat → ClassId, ∀ t, t < gt_tyL.length → ArrOfT s (dA t) (gt_tyL.getD t .float) ∧ va_RA s (dA t) (gt_tyL.getD t .float) := ⟨fun t => (hAr t).choose, fun t ht => (hAr t).choose_spec ht⟩
  have hK : va_K (dC, dI) gt_cl (ai_tys dA gt_P.2.2.2.2.1) s := by
    refine ⟨hKc, fun k q hq => ?_⟩
    unfold ai_tys at hq
    rw [List.getElem?_map, Option.map_eq_some_iff] at hq
    obtain ⟨t, ht, rfl⟩ := hq
    have := List.mem_of_getElem? ht
    exact hdA t (List.mem_range.mp this)
  -- what was there before
  obtain ⟨t0, ht0, hT0⟩ := va_Tof (args := #[Value.ref b]) (s := s) (tm := .static "java/util/ArrayList" "DEFAULTCAPACITY_EMPTY_ELEMENTDATA" "[Ljava/lang/Object;") (ty := .object "java/lang/Object") (N := 0) (f := fun _ => .null) (A := fun q => s.heap.size ≤ q) (by decide) (hg _ (by decide +kernel)) (va_eqt (hg _ (by decide +kernel))) (fun j hj => by omega) hA
  have hZ0 := va_Zof (args := #[Value.ref b]) (A := fun q => s.heap.size ≤ q) (hts (.laysStatic "java/util/ArrayList" "DEFAULTCAPACITY_EMPTY_ELEMENTDATA" "[Ljava/lang/Object;") (by decide +kernel)) (hts (.initialized "java/util/ArrayList") (by decide +kernel)) ht0 hA
  obtain ⟨m0, hM0⟩ := va_Mi.of (args := #[Value.ref b]) (s := s) (C := "[Ljava/lang/Object;") (hg _ (by decide +kernel))
  have hxz : ai_xz s.heap.size s := ⟨ws_sw (args := #[Value.ref b]) (hts _ (by decide +kernel)) (hg _ (by decide +kernel)) (Nat.le_refl _), ws_sw (args := #[Value.ref b]) (hts _ (by decide +kernel)) (hg _ (by decide +kernel)) (Nat.le_refl _)⟩
  -- where it lies
  have hscr : ai_scr s.heap.size L xs (fun a => if a.2 = 0 then b else if a.2 = 1 then t0 else m0) ws_h s := by
    refine ⟨fun a h => ?_, fun a h => ?_, fun a h => ?_⟩
    · obtain ⟨h1, h2, h3⟩ := ws_h_at h
      have e : a.2 = 0 := by
        rcases (show a.2 = 0 ∨ a.2 = 1 ∨ a.2 = 2 by omega) with z | z | z
        · exact z
        · rw [z] at h3; exact absurd h3 (by simp [ty_op])
        · rw [z] at h3; exact absurd h3 (by simp [ty_op])
      simp only
      rw [if_pos e]
      exact ⟨hX, hbl⟩
    · obtain ⟨h1, h2, h3⟩ := ws_h_at h
      have e : a.2 = 1 := by
        rcases (show a.2 = 0 ∨ a.2 = 1 ∨ a.2 = 2 by omega) with z | z | z
        · rw [z] at h3; exact absurd h3 (by simp [ty_op])
        · exact z
        · rw [z] at h3; exact absurd h3 (by simp [ty_op])
      simp only
      rw [if_neg (by omega), if_pos e]
      exact ⟨hZ0, hT0⟩
    · obtain ⟨h1, h2, h3⟩ := ws_h_at h
      have e : a.2 = 2 := by
        rcases (show a.2 = 0 ∨ a.2 = 1 ∨ a.2 = 2 by omega) with z | z | z
        · rw [z] at h3; exact absurd h3 (by simp [ty_op])
        · rw [z] at h3; exact absurd h3 (by simp [ty_op])
        · exact z
      simp only
      rw [if_neg (by omega), if_neg (by omega)]
      exact hM0
  have hR : ai_R (dC, dI) gt_cl dA (fun q => s.heap.size ≤ q) (fun a => if a.2 = 0 then b else if a.2 = 1 then t0 else m0) ws_h s.heap := by
    refine ⟨[], fun a => ⟨fun z => (nomatch z), fun ⟨y, hy, hs⟩ => ?_⟩, fun k q h => by simp [ai_ws] at h, ⟨fun i j p q h => by simp [ai_ws] at h, fun k q h => by simp [ai_ws] at h⟩, fun a y hy => ?_⟩
    · rw [(ws_h_at hy).2.2] at hs
      cases hs
    · rw [(ws_h_at hy).2.2]
      trivial
  -- the run
  obtain ⟨N, n, o, S', hrun, ho, th, hth, hI⟩ := lw_init (xs := xs) 0 hL
  have hrm := ws_room hL hth hI
  have hrun : ai_run gt_P L xs (ai_call gt_P L xs N 50) 150 n 0 [some (.inr (.inr (some (0, 0)))), none, none, none, none, none, none] [] ws_h = some (o, ty_H S') := hrun
  subst ho
  have hc0 : ws_h.2.2.1 = 0 := rfl
  have hs0 : ws_h.2.2.2 = 0 := rfl
  have hc1 : (ty_H S').2.2.1 = S'.2.2.2.2.2.2.2.1 := rfl
  have hs1 : (ty_H S').2.2.2 = S'.2.2.2.2.2.2.2.2 := rfl
  have htab' : c.exceptionTable.toList.map (fun x => (x.startPc, x.endPc, x.handlerPc, x.catchType)) = [] := by
    have : c.exceptionTable.toList = [] := by
      have := Array.isEmpty_iff.mp htab
      rw [this]
    rw [this]
    rfl
  have kr : ai_KR gt_cl gt_P 150 (dC, dI) dA s.heap.size p l e room_1 s m #[Value.ref b] below meth c (lw_Z below #[Value.ref b] s) code (fun a => if a.2 = 0 then b else if a.2 = 1 then t0 else m0) ws_h 0 0 (.inl (some (.inl (ty_J 1)))) (ty_H S') := by
    intro w ρ' H' locs' cells' slots' lsB pc' ins w1 w2 w3 w4 w5 w6 w7 w8 w9
    cases w1
    have hi := ws_int w9
    subst hi
    refine va_forget (fun q hq => w4.2.2 q hq) ?_
    refine W.widen (k := 601024) (n := 7293034) (by omega) (by omega) ?_
    exact lw_ret hx hb hr hlocks w8
  have kt : ai_KT gt_cl (dC, dI) dA s.heap.size gt_ex s below (lw_Z below #[Value.ref b] s) (fun a => if a.2 = 0 then b else if a.2 = 1 then t0 else m0) ws_h 0 0 (.inl (some (.inl (ty_J 1)))) (ty_H S') := by
    intro x t q ce ρ' locs' cells' slots' w1
    cases w1
  have hlr : ai_lr (fun a : ai_A => if a.2 = 0 then b else if a.2 = 1 then t0 else m0) [some (.inr (.inr (some (0, 0)))), none, none, none, none, none, none] ((lg_sl ([.ref b] : List Value) ++ List.replicate (7 - (lg_sl ([.ref b] : List Value)).length) Slot.unset).toArray) := ai_ent_lr (av := [.inr (.inr (some (0, 0)))]) (n := 7) (by decide)
  have hw := ai_frame (p := p) (l := l) (e := e) (R := room_1) (s := s) (m := m) (args := #[Value.ref b]) (below := below) (meth := meth) (c := c) (cc := code) (mi := 150) (D := (dC, dI)) (dA := dA) (b0 := s.heap.size) (L := L) (xs := xs) (Q := lw_Z below #[Value.ref b] s)
    gt_Tgood gt_clok gt_aok gt_mok ws_rows hx hb hml hown hTs hlocks hname htab' hK (Nat.le_refl _) hl hxz (d := 50) (by decide) (by decide) (ai_call_mono 50) (ai_sound gt_Tgood gt_clok gt_aok gt_mok l hl N 50)
    n 0 _ [] ws_h _ (ty_H S') hrun _ s.heap [] 0 0 _ hR va_S.rf hlr rfl (fun _ z => (nomatch z)) (fun v hv => ?_) hscr (by rw [hc0, hc1]; show 0 + _ ≤ 601024 + 0; omega) (by rw [hs0, hs1]; show 0 + _ ≤ 7293034 + 0; omega) kr kt
  · have e9 : (F0 m 0 ((lg_sl ([.ref b] : List Value) ++ List.replicate (7 - (lg_sl ([.ref b] : List Value)).length) Slot.unset).toArray) (List.map (ai_v (fun a : ai_A => if a.2 = 0 then b else if a.2 = 1 then t0 else m0)) [])) = entryFrame m ([Value.ref b] : List Value).toArray 7 := (lg_entry_eq m ([.ref b] : List Value) 7).symm
    rw [e9] at hw
    exact hw
  · simp only [List.mem_cons, List.not_mem_nil, or_false] at hv
    rcases hv with z | z | z | z | z | z | z
    · cases z
      intro a ha
      cases ha
      rfl
    · cases z
    · cases z
    · cases z
    · cases z
    · cases z
    · cases z
set_option maxHeartbeats 4000000 in
theorem lw_walk (l : Launch) (hl : l.stackTraces = false) (b : Addr) (xs : List Int32) : MetFree l x (headSpec (Jvm.Cond.code x code maxLocals ret :: tables_1) room_1) (lw_P b xs) (fun _ _ _ _ _ => True) lw_Q := by
  refine MetFree.of_bodyS (code := code) (maxLocals := maxLocals) (ret := ret) (by decide) ?_ ?_
  · intro args s m h hn
    obtain ⟨meth, c, h1, h2, h3, h4, h5, h6, -, -⟩ := Cond.code_spec hn (atoms_spec (ws := Jvm.Cond.code x code maxLocals ret :: tables_1) h _ List.mem_cons_self)
    exact ⟨meth, c, h1, h2, h3, h4, h5, h6⟩
  · intro p e s m args below meth c s₁ B hml0 hP _
    obtain ⟨rfl, hx, hbd, hgv⟩ := hP
    obtain ⟨scr, harrAt, hlist, hof, hsmall⟩ := hx
    obtain ⟨hcb, hkn, -, -⟩ := State.arrayAt?_spec harrAt
    have hown : s.vm.findClass R_law = some m.cls := findClass_of_methodNamed B.named
    have hts0 : ∀ c ∈ (Jvm.Cond.code x code maxLocals ret :: tables_1), c.before #[Value.ref b] s = true := atoms_spec (ws := Jvm.Cond.code x code maxLocals ret :: tables_1) B.pre
    have hts : ∀ w ∈ lw_tbl, w.before #[Value.ref b] s = true := k2_hts_sels lw_privs (fun w hw => hts0 w (List.mem_cons_of_mem _ hw)) lw_privs_ok
    have htb : c.exceptionTable.isEmpty = true := by
      obtain ⟨meth', c', h1, h2, h3, h4, h5, h6, h7, -⟩ := Cond.code_spec B.named (hts0 _ List.mem_cons_self)
      cases B.method.symm.trans h1
      cases (Stand.of_body B).code.symm.trans h2
      exact h7
    have hml : c.maxLocals = 7 := B.maxLocals_eq (hts0 _ List.mem_cons_self)
    have X₀ : Stand p l e room_1 s m #[Value.ref b] below meth c s₁ [] 0 0 := Stand.of_body B
    have hh0 : s₁.heap = s.heap := by rw [B.state]; rfl
    have hsz : scr.slots.size = xs.length := by rw [← Array.length_toList, hlist, List.length_map]
    have hval : ∀ j : Nat, j < xs.length → scr.slots[j]? = some (.int (xs.getD j 0)) := fun j hj => by
      rw [← Array.getElem?_toList, hlist]
      simp [hj]
    have hbl : b < s.heap.size := (Array.getElem?_eq_some_iff.mp hcb).1
    have hX : va_X b xs.length (fun j => xs.getD j 0) s s.heap := ⟨scr, hcb, hof, hkn, hsz, hval⟩
    have K : W p l e room_1 s m #[Value.ref b] below meth c s₁.heap [] 0 0 (lw_Z below #[Value.ref b] s) (entryFrame m ([Value.ref b] : List Value).toArray 7) := by
      rw [hh0]
      exact whole_start l hl hbd ⟨B.exec, B.bytes, B.returns, hml, hown, hts, hX, hbl, B.notSynchronized, hgv⟩ (name_of_methodNamed B.named B.method).1 htb
    obtain ⟨t, a1, o, b1, b2, b3⟩ := K s₁ rfl X₀
    exact ⟨t, o, a1, b1, b2, b3⟩
theorem lw_pre_spec {args : Array Value} {s : State} (h : (Jvm.Cond.and given_1 narrow_1).before args s = true) (hr : rest_1_c.before args s = true) : ∃ (b : Addr) (xs : List Int32), lw_P b xs args s := by
  have hs := flat_of_before _ h
  have hq := flat_of_before _ hr
  have hc : (Cond.count 1).before args s = true := hs _ (by decide +kernel)
  have harr : (Cond.arrayOf (.arg 0) .int).before args s = true := hs _ (by decide +kernel)
  have hle : (Cond.le (.length (.arg 0)) (.int 1536)).before args s = true := hs _ (by decide +kernel)
  have hlen : (Cond.isInt (.length (.arg 0))).before args s = true := hq _ (by decide +kernel)
  have hall : (Cond.all (.arg 0) (.isInt (.elem (.arg 0) (.index 0)))).before args s = true := hq _ (by decide +kernel)
  obtain ⟨b, xs, hb, hx⟩ := State.ints_of_pre rfl harr hlen hall
  have hsm : xs.length < 2 ^ 31 := hx.choose_spec.2.2.2
  have hev : (Term.length (.arg 0)).eval args s none [] s = some (.int xs.length.toInt32) := hx.length_eval hb
  have hv := Cond.le_ints hev (show (Term.int 1536).eval args s none [] s = some (.int 1536) from rfl)
  have hd : xs.length.toInt32 ≤ 1536 := by
    simpa [Cond.before, Cond.holds, hv] using hle
  have hN : xs.length ≤ 1536 := (Int32.ofNat_le_ofNat hsm (by decide)).mp (show Int32.ofNat xs.length ≤ Int32.ofNat 1536 from hd)
  exact ⟨b, xs, Cond.one_arg hc (show args[0]? = some (.ref b) from hb), hx, hN, h⟩
theorem lw_comes (l : Launch) (hl : l.stackTraces = false) : Comes l x (Jvm.Cond.code x code maxLocals ret :: tables_1) room_1 (fun tb e args s => Calls_1 tb e args s ∧ rest_1 tb e args s ∧ Pre_1 tb e args s)
    (fun _ _ args s o t => lw_Q args s o t) := by
  intro p e ha hc hk s m args below hf hfit hheap happ hpre
  obtain ⟨b, xs, hP⟩ := lw_pre_spec hpre.2.2 hpre.2.1
  obtain ⟨k, o, h1, h2, h3, hQ⟩ := lw_walk l hl b xs p e ha hc hk s m args below hf ((Spec.applies_iff_loose hf).mp happ).1 hP trivial
  exact ⟨k, o, h1, h2, h3, hQ⟩
theorem lw_frame {s t : State} {o : Outcome} {args : Array Value} (h : Framed s o t [] 601024 7293034) :
    Framed s o t (fieldLocs frame_1_writes args s ++ arrayLocs frame_1_arrays args s ++ staticLocs frame_1_statics s) 601024 7293034 := h
theorem lw_limb (L : Cond) (hL : ∀ (args : Array Value) (s t : State), L.after args s (.returned (some (.int 1))) t = true) :
    ArmFor flags0 classFile x code maxLocals ret World_1 tables_1 room_1 Calls_1 rest_1 Pre_1
      (fun tb e a s o t => postC L tb e a s o t ∧ Framed s o t (fieldLocs frame_1_writes a s ++ arrayLocs frame_1_arrays a s ++ staticLocs frame_1_statics s) 601024 7293034) := by
  intro l hfl _ _ p e ha hc hk s m args below hf hfit hheap happ hpre
  have hl : l.stackTraces = false := by
    unfold Launch.stackTraces
    rw [hfl]
    decide +kernel
  obtain ⟨k, o, h1, h2, h3, rfl, hF⟩ := lw_comes l hl p e ha hc hk s m args below hf hfit hheap happ hpre
  exact ⟨k, _, h1, h2, h3, hL args s _, lw_frame hF⟩
theorem i_vc : Claimed_1_1 ∧ Claimed_1_2 := ⟨lw_limb limb_1_1 (fun args s t => by simp [limb_1_1, Cond.after, Cond.holds, Cond.value]), lw_limb limb_1_2 (fun args s t => Cond.after_iff.mpr (by
  first | (rw [show limb_1_2 = Cond.eq .result (.int 1) from rfl, Cond.eq_ints (x := 1) (y := 1) rfl rfl]; simp; done) | (simp [limb_1_2, Cond.value, Term.eval]; done)))⟩
