/-! THE FRAME'S RUN, AND ALL METHODS. b0: the heap's size where the law began; what lies below never changes. -/
def ai_xz (b0 : Nat) (U : State) : Prop := ai_Sw Bundle.tN "UNASSIGNED_STACK" Bundle.steD b0 U ∧ ai_Sw Bundle.tN "SUPPRESSED_SENTINEL" Bundle.listD b0 U
def ai_Pre (cl : List vw_C) (tyL : List FieldType) (D : va_G) (dA : Nat → ClassId) (b0 L : Nat) (xs : Nat → Int32) (ρ : ai_A → Nat) (h : ai_H) (av : List ai_V) : Array Value → State → Prop := fun a U =>
  a = (av.map (ai_v ρ)).toArray ∧ ai_R D cl dA (fun q => b0 ≤ q) ρ h U.heap ∧ va_K D cl (ai_tys dA tyL) U ∧ b0 ≤ U.heap.size ∧ (∀ v ∈ av, ai_ok h v) ∧ ai_scr b0 L xs ρ h U ∧ ai_xz b0 U
def ai_Qr (cl : List vw_C) (D : va_G) (dA : Nat → ClassId) (b0 : Nat) (ρ : ai_A → Nat) (h : ai_H) (o : ai_O) (h' : ai_H) : State → Option Value → State → Prop := fun st v t =>
  ∃ (ρ' : ai_A → Nat) (w : Option ai_V), o = .inl w ∧ v = w.map (ai_v ρ') ∧ ai_ex h ρ h' ρ' ∧ ai_R D cl dA (fun q => b0 ≤ q) ρ' h' t.heap ∧ (∀ x, w = some x → ai_ok h' x) ∧ va_F (fun q => b0 ≤ q) st t
def ai_Qt (cl : List vw_C) (D : va_G) (dA : Nat → ClassId) (b0 : Nat) (ex : Nat → String) (ρ : ai_A → Nat) (h : ai_H) (o : ai_O) (h' : ai_H) : State → Addr → State → Prop := fun st q t =>
  ∃ (ρ' : ai_A → Nat) (x : Nat) (ce : Cell), o = .inr x ∧ ai_ex h ρ h' ρ' ∧ ai_R D cl dA (fun q => b0 ≤ q) ρ' h' t.heap ∧ va_F (fun q => b0 ≤ q) st t ∧ t.heap[q]? = some ce ∧ ce.vm = .none ∧ st.vm.findClass (ex x) = some ce.cls
def ai_rm (d : Nat) (h h' : ai_H) : Room := { frames := d + 12, cells := h'.2.2.1 - h.2.2.1, slots := h'.2.2.2 - h.2.2.2, locals := 64 * d + 300 }
theorem ai_rm_f {d : Nat} {h h' : ai_H} : (ai_rm d h h').frames = d + 12 := rfl
theorem ai_rm_l {d : Nat} {h h' : ai_H} : (ai_rm d h h').locals = 64 * d + 300 := rfl
theorem ai_rm_c {d : Nat} {h h' : ai_H} : (ai_rm d h h').cells = h'.2.2.1 - h.2.2.1 := rfl
theorem ai_rm_s {d : Nat} {h h' : ai_H} : (ai_rm d h h').slots = h'.2.2.2 - h.2.2.2 := rfl
set_option maxRecDepth 8000 in
theorem ai_rm_r {a d r : Nat} (h : a ≤ 45) (hr : 64 * d + 364 ≤ r) : 8 + (a + 11) + (64 * d + 300) ≤ r := by omega
/-- what a frame's end owes -/
def ai_KR (cl : List vw_C) (P : ai_P) (mi : Nat) (D : va_G) (dA : Nat → ClassId) (b0 : Nat) (p : Program) (l : Launch) (e : Env) (R : Room) (s : State) (m : MethodId) (args : Array Value) (below : List Frame) (meth : Method) (c : Code) (Q : State → Prop) (cc : ByteArray) (ρ : ai_A → Nat) (h : ai_H) (cells slots : Nat) (o : ai_O) (h' : ai_H) : Prop :=
  ∀ (w : Option ai_V) (ρ' : ai_A → Nat) (H' : Heap) (locs' : List Loc) (cells' slots' : Nat) (lsB : Array Slot) (pc' : Nat) (ins : Instr), o = .inl w → ai_ex h ρ h' ρ' → ai_R D cl dA (fun q => b0 ≤ q) ρ' h' H' → va_S (fun q => b0 ≤ q) s.heap H' locs' → (∀ x, w = some x → ai_ok h' x) → cells' + h.2.2.1 = cells + h'.2.2.1 → slots' + h.2.2.2 = slots + h'.2.2.2 → decode cc pc' = .ok (ins, 1) → ai_ret ins (P.2.2.1 mi).2 w.toList = some w →
    W p l e R s m args below meth c H' locs' cells' slots' Q (F0 m pc' lsB (w.toList.map (ai_v ρ')))
def ai_KT (cl : List vw_C) (D : va_G) (dA : Nat → ClassId) (b0 : Nat) (ex : Nat → String) (s : State) (below : List Frame) (Q : State → Prop) (ρ : ai_A → Nat) (h : ai_H) (cells slots : Nat) (o : ai_O) (h' : ai_H) : Prop :=
  ∀ (x : Nat) (t : State) (q : Addr) (ce : Cell) (ρ' : ai_A → Nat) (locs' : List Loc) (cells' slots' : Nat), o = .inr x → t.status = .running → Ended t below (.threw q) → s.WarmedH t.vm → s.sameButNew ({ t with vm := s.vm } : State) locs' cells' slots' → (∀ z ∈ locs', b0 ≤ z.base) → ai_ex h ρ h' ρ' → ai_R D cl dA (fun q => b0 ≤ q) ρ' h' t.heap → va_F (fun q => b0 ≤ q) s t → t.heap[q]? = some ce → ce.vm = .none → s.vm.findClass (ex x) = some ce.cls → cells' + h.2.2.1 = cells + h'.2.2.1 → slots' + h.2.2.2 = slots + h'.2.2.2 → Q t
section AIM
variable {Ts : List Cond} {cl : List vw_C} {P : ai_P} {M : ai_M} {ex : Nat → String} {D : va_G} {dA : Nat → ClassId} {b0 L : Nat} {xs : Nat → Int32}
variable {p : Program} {l : Launch} {e : Env} {R : Room} {s : State} {m : MethodId} {args : Array Value} {below : List Frame} {meth : Method} {c : Code} {Q : State → Prop} {cc : ByteArray} {mi : Nat}
theorem ai_KR.step {ρ ρ1 : ai_A → Nat} {h h1 h' : ai_H} {cells slots cells1 slots1 : Nat} {o : ai_O} (k : ai_KR cl P mi D dA b0 p l e R s m args below meth c Q cc ρ h cells slots o h') (x : ai_ex h ρ h1 ρ1) (hc : cells1 + h.2.2.1 = cells + h1.2.2.1) (hs : slots1 + h.2.2.2 = slots + h1.2.2.2) : ai_KR cl P mi D dA b0 p l e R s m args below meth c Q cc ρ1 h1 cells1 slots1 o h' :=
  fun w ρ' H' locs' cells' slots' lsB pc' ins a1 a2 a3 a4 a5 a6 a7 => k w ρ' H' locs' cells' slots' lsB pc' ins a1 (x.trans a2) a3 a4 a5 (by omega) (by omega)
theorem ai_KT.step {ρ ρ1 : ai_A → Nat} {h h1 h' : ai_H} {cells slots cells1 slots1 : Nat} {o : ai_O} (k : ai_KT cl D dA b0 ex s below Q ρ h cells slots o h') (x : ai_ex h ρ h1 ρ1) (hc : cells1 + h.2.2.1 = cells + h1.2.2.1) (hs : slots1 + h.2.2.2 = slots + h1.2.2.2) : ai_KT cl D dA b0 ex s below Q ρ1 h1 cells1 slots1 o h' :=
  fun y t q ce ρ' locs' cells' slots' a1 a2 a3 a4 a5 a6 a7 a8 a9 a10 a11 a12 a13 a14 => k y t q ce ρ' locs' cells' slots' a1 a2 a3 a4 a5 a6 (x.trans a7) a8 a9 a10 a11 a12 (by omega) (by omega)
theorem ai_xz.moved {u U : State} (k : ai_xz b0 u) (hvm : u.vm.Alike U.vm) (hh : ∀ q, q < b0 → U.heap[q]? = u.heap[q]?) : ai_xz b0 U := ⟨k.1.moved hvm hh, k.2.moved hvm hh⟩
/-- the handlers of a method, as its words say -/
theorem ai_cov_out {hh : List (Nat × Nat × Nat × Nat)} {tb : List ExceptionTableEntry} {pc : Nat} (ht : tb.map (fun x => (x.startPc, x.endPc, x.handlerPc, x.catchType)) = hh) (h : ∀ q ∈ hh, ai_cov q pc = false) : ∀ x ∈ tb, covers x pc = false := by
  intro x hx
  have := h (x.startPc, x.endPc, x.handlerPc, x.catchType) (by rw [← ht]; exact List.mem_map.mpr ⟨x, hx, rfl⟩)
  exact this
theorem ai_tk_row {own E : String} {b : Bool} {x : ExceptionTableEntry} {pc : Nat} (hts : ∀ w ∈ Ts, w.before args s = true) (h : ai_tk Ts own E (x.startPc, x.endPc, x.handlerPc, x.catchType) b) : ai_row own E args s pc x b := by
  obtain ⟨h0, nm, h1, h2⟩ := h
  refine ⟨h0, nm, hts _ h1, ?_⟩
  rcases h2 with ⟨rfl, h2⟩ | ⟨rfl, h2⟩
  · obtain ⟨c3, c4, hc3, hc4, ha⟩ := Cond.castable_spec (hts _ h2)
    exact ⟨c3, c4, hc3, hc4, ha⟩
  · have hv := hts _ h2
    simp only [Cond.before, Cond.holds, Cond.value] at hv
    cases ha : s.vm.findClass E with
    | none => simp [ha] at hv
    | some c3 =>
      cases hb : s.vm.findClass nm with
      | none => simp [ha, hb] at hv
      | some c4 =>
        simp only [ha, hb] at hv
        refine ⟨c3, c4, rfl, rfl, ?_⟩
        cases hz : s.vm.assignable c3 c4
        · rfl
        · simp [hz] at hv
set_option maxHeartbeats 8000000 in
theorem ai_frame (hgood : ∀ w ∈ Ts, ai_good w = true) (hcl : ai_clok Ts cl P.2.2.2.2.2.1) (hasg : ai_aok Ts cl P.2.2.2.2.1 P.2.2.2.2.2.2) (hmo : ai_mok Ts cl P M ex)
    {y : MethodName} {hh : List (Nat × Nat × Nat × Nat)} (rows : ∀ pc r, P.1 mi pc = some r → ai_rok Ts cl P M ex mi y cc hh pc r)
    (hx : p.tables.exec = Jvm.exec) (hb : c.code = cc) (hml : c.maxLocals = (P.2.2.1 mi).1) (hown : s.vm.findClass y.cls = some m.cls) (hts : ∀ w ∈ Ts, w.before args s = true) (hlocks : meth.locks = false) (hname : meth.name = y.name) (htab : c.exceptionTable.toList.map (fun x => (x.startPc, x.endPc, x.handlerPc, x.catchType)) = hh)
    (hK : va_K D cl (ai_tys dA P.2.2.2.2.1) s) (hB0 : b0 ≤ s.heap.size) (hl : l.stackTraces = false) (hz : ai_xz b0 s)
    {d : Nat} (hRf : d + 13 ≤ R.frames) (hRl : 64 * d + 364 ≤ R.locals) {call : Nat → List ai_V → ai_H → Option (ai_O × ai_H)} (hmono : ∀ mi av h o h', call mi av h = some (o, h') → h.2.2.1 ≤ h'.2.2.1 ∧ h.2.2.2 ≤ h'.2.2.2)
    (IH : ∀ mi' y' cc' hh', M mi' = some (y', cc', hh') → ∀ av h o h', call mi' av h = some (o, h') → ∀ ρ, ai_Met l y' Ts (ai_rm d h h') (ai_Pre cl P.2.2.2.2.1 D dA b0 L xs ρ h av) (fun q => b0 ≤ q) (ai_Qr cl D dA b0 ρ h o h') (ai_Qt cl D dA b0 ex ρ h o h')) :
    ∀ n pc ls st h o h', ai_run P L xs call mi n pc ls st h = some (o, h') → ∀ (ρ : ai_A → Nat) (H : Heap) (locs : List Loc) (cells slots : Nat) (lsA : Array Slot), ai_R D cl dA (fun q => b0 ≤ q) ρ h H → va_S (fun q => b0 ≤ q) s.heap H locs → ai_lr ρ ls lsA → ls.length = (P.2.2.1 mi).1 → (∀ v ∈ st, ai_ok h v) → (∀ v, some v ∈ ls → ai_ok h v) → ai_scr b0 L xs ρ h s →
      cells + h'.2.2.1 ≤ R.cells + h.2.2.1 → slots + h'.2.2.2 ≤ R.slots + h.2.2.2 → ai_KR cl P mi D dA b0 p l e R s m args below meth c Q cc ρ h cells slots o h' → ai_KT cl D dA b0 ex s below Q ρ h cells slots o h' →
      W p l e R s m args below meth c H locs cells slots Q (F0 m pc lsA (st.map (ai_v ρ))) := by
  intro n
  induction n with
  | zero => intro pc ls st h o h' hr; cases hr
  | succ n ih =>
    intro pc ls st h o h' hr ρ H locs cells slots lsA hR hS hlr hlen hst hls hsc hrc hrs kr kt
    have hsz : lsA.size = c.maxLocals := by rw [hlr.size, hlen, hml]
    have hBB : ∀ q, s.heap.size ≤ q → b0 ≤ q := fun q z => Nat.le_trans hB0 z
    have hlow : ∀ q, q < b0 → H[q]? = s.heap[q]? := fun q z => hS.2.1 q (by omega) (by omega)
    unfold ai_run at hr
    split at hr
    · cases hr
    rename_i kd ins ks hrow
    obtain ⟨len, hd, hlok, hj, hh3, hc4, ht6, ho7, hx8, hx9, hx10⟩ := rows pc _ hrow
    split at hr
    · -- the stack alone
      split at hr
      · rename_i st' hp
        have := ai_pure_len hp hlok
        subst this
        exact ai_pure_W hx hb hp hd (ih _ _ _ _ _ _ hr ρ H locs cells slots lsA hR hS hlr hlen (ai_pure_ok hp hst) hls hsc hrc hrs kr kt)
      · cases hr
    · -- jumps
      split at hr
      · rename_i pc' st' hp
        exact ai_jmp_W hx hb hp (hj rfl) hd hlok (ih _ _ _ _ _ _ hr ρ H locs cells slots lsA hR hS hlr hlen (ai_jmp_ok hp hst) hls hsc hrc hrs kr kt)
      · cases hr
    · -- locals
      split at hr
      · rename_i ls' st' hp
        have := ai_loc_len hp hlok
        subst this
        obtain ⟨q1, q2, q3⟩ := ai_loc_ok hp hst hls
        exact ai_loc_W hx hb hp hd hlr (fun lsB hlB => ih _ _ _ _ _ _ hr ρ H locs cells slots lsB hR hS hlB (q1.trans hlen) q2 q3 hsc hrc hrs kr kt)
      · cases hr
    · -- the heap
      split at hr
      · rename_i st' h1 hp
        have := ai_heap_len hp hlok
        subst this
        have m1 := ai_run_mono hmono _ _ _ _ _ _ _ hr
        have hok := hh3 rfl
        rw [← hname] at hok
        refine ai_heap_W hx hb hts hown hcl hasg hK hR hS hBB (L := L) (xs := xs) (fun a ha => ⟨(hsc.1 a ha).1, Nat.lt_of_lt_of_le (hsc.1 a ha).2 hB0, Nat.not_le.mpr (hsc.1 a ha).2⟩) (fun a ha => (hsc.2.1 a ha).2) hst hp hok hd (by omega) (by omega) (fun ρ' H' locs' cells' slots' x1 x2 x3 x4 x5 x6 x7 x8 => ?_)
        have hex : ai_ex h ρ h1 ρ' := ⟨x1, x5, fun b k _ => x6 b k⟩
        exact ih _ _ _ _ _ _ hr ρ' H' locs' cells' slots' lsA x2 x3 (hlr.ext hls x1) hlen x4 (fun v hv => hex.ok (hls v hv)) (hsc.step hex) (by omega) (by omega) (kr.step hex x7 x8) (kt.step hex x7 x8)
      · cases hr
    · -- calls
      obtain ⟨rfl, hhn, y', cc', hh', nn, hM, hnn, hiok⟩ := hc4 rfl
      obtain ⟨pl1, pl2, pl3, pl4, pl5, pl6, -⟩ := hmo _ _ _ _ hM
      split at hr
      · rename_i av r hp
        obtain ⟨a1, a2, a3, -, -⟩ := ai_args_spec hp
        have hav : ∀ v ∈ av, ai_ok h v := fun v hv => hst v (by rw [a1]; exact List.mem_append_left _ (List.mem_reverse.mpr hv))
        have hrr : ∀ v ∈ r, ai_ok h v := fun v hv => hst v (by rw [a1]; exact List.mem_append_right _ hv)
        -- whatever the call comes to
        have go : ∀ (o1 : ai_O) (h1 : ai_H), call (ks.getD 0 0) av h = some (o1, h1) → h1.2.2.1 ≤ h'.2.2.1 → h1.2.2.2 ≤ h'.2.2.2 →
            (∀ (w : Option ai_V) (ρ1 : ai_A → Nat) (H1 : Heap) (locs1 : List Loc), o1 = .inl w → ai_ex h ρ h1 ρ1 → ai_R D cl dA (fun q => b0 ≤ q) ρ1 h1 H1 → (∀ x, w = some x → ai_ok h1 x) → va_S (fun q => b0 ≤ q) s.heap H1 locs1 → W p l e R s m args below meth c H1 locs1 (cells + (ai_rm d h h1).cells) (slots + (ai_rm d h h1).slots) Q (F0 m (pc + 3) lsA (w.toList.map (ai_v ρ1) ++ r.map (ai_v ρ1)))) →
            (∀ (x : Nat) (ρ1 : ai_A → Nat) (T1 : State) (locs1 : List Loc) (q : Addr) (ce : Cell), o1 = .inr x → ai_ex h ρ h1 ρ1 → ai_R D cl dA (fun q => b0 ≤ q) ρ1 h1 T1.heap → va_S (fun q => b0 ≤ q) s.heap T1.heap locs1 → T1.heap[q]? = some ce → ce.vm = .none → s.vm.findClass (ex x) = some ce.cls → Stand p l e R s m args below meth c T1 locs1 (cells + (ai_rm d h h1).cells) (slots + (ai_rm d h h1).slots) → ∃ t, Steps p.tables e below ((T1.setTop (F0 m pc lsA (r.map (ai_v ρ)))).pushFrame (.throwing q)) t ∧ Q t) →
            W p l e R s m args below meth c H locs cells slots Q (F0 m pc lsA (st.map (ai_v ρ))) := by
          intro o1 h1 hcall hm1 hm2 kA kB T hT X
          have hme := hmono _ _ _ _ _ hcall
          have hMet := IH _ _ _ _ hM av h o1 h1 hcall ρ
          obtain ⟨mk, vm₁, hnm, hW₁, X₁, hgo⟩ := ai_find X hx hb hts hown hK hT hR (lsA := lsA) hp hiok hnn pl4 pl5 pl2 pl3 hd
          have hwU : ∀ (a' : Array Value), ∀ w ∈ Ts, w.before a' (T.setVm vm₁) = true := fun a' w hw => ai_word (U := T.setVm vm₁) hW₁ (hgood w hw) (hts w hw)
          have hnU : (T.setVm vm₁).methodNamed? y' = some mk := X₁.named hnm
          have hcode : ai_Code (T.setVm vm₁) mk (P.2.2.1 (ks.getD 0 0)).1 := by
            obtain ⟨mk', methY, cd, g1, g2, g3, g4, g5, -⟩ := ai_cw_spec (hwU #[]) pl4
            cases hnU.symm.trans g1
            obtain ⟨kY, hkY, -⟩ := className_of_methodNamed hnU
            exact ⟨methY, cd, kY, g2, g3, g5, hkY, Cond.initialized_spec (findClass_of_methodNamed hnU) hkY (hwU #[] _ pl2)⟩
          have hlowT : ∀ q, q < b0 → (T.setVm vm₁).heap[q]? = s.heap[q]? := fun q z => by
            show T.heap[q]? = _
            rw [hT]; exact hlow q z
          have hPc : ai_Pre cl P.2.2.2.2.1 D dA b0 L xs ρ h av (av.map (ai_v ρ)).toArray ((T.setVm vm₁).calling (F0 m pc lsA (r.map (ai_v ρ))) mk (av.map (ai_v ρ)).toArray) := by
            refine ⟨rfl, ?_, va_K.moved (U := (T.setVm vm₁).calling (F0 m pc lsA (r.map (ai_v ρ))) mk (av.map (ai_v ρ)).toArray) hW₁.alike hK, ?_, hav, hsc.moved (U := (T.setVm vm₁).calling (F0 m pc lsA (r.map (ai_v ρ))) mk (av.map (ai_v ρ)).toArray) hW₁.alike hlowT, hz.moved (U := (T.setVm vm₁).calling (F0 m pc lsA (r.map (ai_v ρ))) mk (av.map (ai_v ρ)).toArray) hW₁.alike hlowT⟩
            · show ai_R D cl dA (fun q => b0 ≤ q) ρ h T.heap
              rw [hT]; exact hR
            · show b0 ≤ T.heap.size
              rw [hT]; exact Nat.le_trans hB0 hS.1
          have hq1 : (ai_rm d h h1).frames + 1 ≤ R.frames := by rw [ai_rm_f]; omega
          have hq2 : 8 + ((P.2.2.1 (ks.getD 0 0)).1 + 11) + (ai_rm d h h1).locals ≤ R.locals := by rw [ai_rm_l]; exact ai_rm_r pl6 hRl
          have hq3 : cells + (ai_rm d h h1).cells ≤ R.cells := by rw [ai_rm_c]; omega
          have hq4 : slots + (ai_rm d h h1).slots ≤ R.slots := by rw [ai_rm_s]; omega
          obtain ⟨T1, t, st₀, L1, e1, e2, e3, e4, hL1, X', hor⟩ := ai_enter hMet X₁ (g := F0 m pc lsA (r.map (ai_v ρ))) rfl hsz (by rw [hb]; exact hd) (by show 2 * 0 + _ ≤ 8; rw [ai_wt_eq]; omega) hnU hcode (hwU _) hPc hq1 hq2 hq3 hq4
          have hst0 : st₀.heap = H := e1.trans hT
          have keepS : va_F (fun q => b0 ≤ q) st₀ t → va_S (fun q => b0 ≤ q) s.heap T1.heap (locs ++ L1) := by
            intro hF
            refine ⟨by rw [e3]; exact Nat.le_trans hS.1 (by rw [← hst0]; exact hF.1), fun q q1 q2 => ?_, fun z hz9 => ?_⟩
            · rw [e3, hF.2 q (by rw [hst0]; exact Nat.lt_of_lt_of_le q1 hS.1) q2, hst0]
              exact hS.2.1 q q1 q2
            · rcases List.mem_append.mp hz9 with z1 | z1
              · exact hS.2.2 z z1
              · exact hL1 z z1
          rcases hor with ⟨v, ⟨ρ1, w, r1, r2, r3, r4, r5, r6⟩, hsteps⟩ | ⟨q, ⟨ρ1, x, ce, r1, r3, r4, r6, r7, r8, r9⟩, hsteps⟩
          · obtain ⟨t2, b1, b2⟩ := kA w ρ1 T1.heap (locs ++ L1) r1 r3 (by rw [e3]; exact r4) r5 (keepS r6) T1 rfl X'
            refine ⟨t2, hgo _ (hsteps.trans ?_), b2⟩
            have hv : v.toList ++ r.map (ai_v ρ) = w.toList.map (ai_v ρ1) ++ r.map (ai_v ρ1) := by
              rw [r2, ai_vs_ext r3.1 hrr]
              cases w <;> rfl
            show Steps p.tables e below (T1.setTop (F0 m (pc + 3) lsA (v.toList ++ r.map (ai_v ρ)))) t2
            rw [hv]
            exact b1
          · have hfc : s.vm.findClass (ex x) = some ce.cls := by
              have z9 : st₀.vm.findClass (ex x) = some ce.cls := r9
              rw [e2] at z9
              have := hW₁.alike.findClass (ex x)
              rw [← this]
              exact z9
            obtain ⟨t2, b1, b2⟩ := kB x ρ1 T1 (locs ++ L1) q ce r1 r3 (by rw [e3]; exact r4) (keepS r6) (by rw [e3]; exact r7) r8 hfc X'
            exact ⟨t2, hgo _ (hsteps.trans b1), b2⟩
        split at hr
        · rename_i v h1 hcall
          have m1 := ai_run_mono hmono _ _ _ _ _ _ _ hr
          have m0 := hmono _ _ _ _ _ hcall
          refine go _ h1 hcall m1.1 m1.2 (fun w ρ1 H1 locs1 w1 w2 w3 w4 w5 => ?_) (fun x ρ1 T1 locs1 q ce w1 => (nomatch w1))
          cases w1
          have hcc : cells + (ai_rm d h h1).cells + h.2.2.1 = cells + h1.2.2.1 := by show cells + (h1.2.2.1 - h.2.2.1) + h.2.2.1 = _; omega
          have hss : slots + (ai_rm d h h1).slots + h.2.2.2 = slots + h1.2.2.2 := by show slots + (h1.2.2.2 - h.2.2.2) + h.2.2.2 = _; omega
          have := ih _ _ _ _ _ _ hr ρ1 H1 locs1 _ _ lsA w3 w5 (hlr.ext hls w2.1) hlen (fun x hx9 => by
            rcases List.mem_append.mp hx9 with z | z
            · exact w4 x (by simpa using z)
            · exact w2.ok (hrr x z)) (fun x hx9 => w2.ok (hls x hx9)) (hsc.step w2) (by omega) (by omega) (kr.step w2 hcc hss) (kt.step w2 hcc hss)
          rw [List.map_append] at this
          exact this
        · rename_i x h1 hcall
          have m0 := hmono _ _ _ _ _ hcall
          have hcc : cells + (ai_rm d h h1).cells + h.2.2.1 = cells + h1.2.2.1 := by show cells + (h1.2.2.1 - h.2.2.1) + h.2.2.1 = _; omega
          have hss : slots + (ai_rm d h h1).slots + h.2.2.2 = slots + h1.2.2.2 := by show slots + (h1.2.2.2 - h.2.2.2) + h.2.2.2 = _; omega
          split at hr
          · rename_i pc' hpc'
            split at hr
            · rename_i hne
              have hne : h1.1 (1, h1.2.1 1) = none := by simpa using hne
              have m1 := ai_run_mono hmono _ _ _ _ _ _ _ hr
              simp only [ai_exc] at m1
              refine go _ h1 hcall m1.1 m1.2 (fun w ρ1 H1 locs1 w1 => (nomatch w1)) (fun x' ρ1 T1 locs1 q ce w1 w2 w3 w5 w6 w7 w8 X1 => ?_)
              cases w1
              obtain ⟨pre, qq, suf, g1, g2, g3, g4, g5⟩ := hhn.2 x pc' hpc'
              rw [← htab] at g1
              obtain ⟨pre', q', suf', f1, f2, f3, f4⟩ : ∃ pre' q' suf', c.exceptionTable.toList = pre' ++ q' :: suf' ∧ pre'.map (fun x => (x.startPc, x.endPc, x.handlerPc, x.catchType)) = pre ∧ (q'.startPc, q'.endPc, q'.handlerPc, q'.catchType) = qq ∧ suf'.map (fun x => (x.startPc, x.endPc, x.handlerPc, x.catchType)) = suf := by
                obtain ⟨l1, l2, e1, e2, e3⟩ := List.map_eq_append_iff.mp g1
                obtain ⟨q', l3, e4, e5, e6⟩ := List.map_eq_cons_iff.mp e3
                exact ⟨l1, q', l3, by rw [e1, e4], e2, e5, e6⟩
              subst f3
              obtain ⟨vm', X2, st2⟩ := ai_catch X1 hown (g := F0 m pc lsA (r.map (ai_v ρ))) rfl w6 w7 w8 pre' q' suf' f1 (fun z hz9 => by
                rcases g5 (z.startPc, z.endPc, z.handlerPc, z.catchType) (by rw [← f2]; exact List.mem_map.mpr ⟨z, hz9, rfl⟩) with g | g
                · exact Or.inl g
                · exact Or.inr (ai_tk_row hts g)) g3 (ai_tk_row hts g4)
              obtain ⟨hR2, hex2⟩ := w3.exc (q := q) hne
              have hall := w2.trans hex2
              have := ih _ _ _ _ _ _ hr _ T1.heap locs1 _ _ lsA hR2 w5 (hlr.ext hls hall.1) hlen (ai_oks (ai_ok_ref (by simp [ai_exc, ai_upd])) (fun _ z => (nomatch z))) (fun v hv => hall.ok (hls v hv)) (hsc.step hall) (by show _ + h'.2.2.1 ≤ R.cells + h1.2.2.1; omega) (by show _ + h'.2.2.2 ≤ R.slots + h1.2.2.2; omega) (kr.step hall hcc hss) (kt.step hall hcc hss)
              obtain ⟨t2, b1, b2⟩ := this (T1.setVm vm') rfl X2
              refine ⟨t2, st2 t2 ?_, b2⟩
              have hq : ai_v (ai_at ρ1 (1, h1.2.1 1) q) (.inr (.inr (some (1, h1.2.1 1)))) = .ref q := by simp [ai_v, ai_at]
              rw [List.map_cons, List.map_nil, hq, ← g2] at b1
              exact b1
            · cases hr
          · rename_i hpc'
            cases hr
            refine go _ _ hcall (Nat.le_refl _) (Nat.le_refl _) (fun w ρ1 H1 locs1 w1 => (nomatch w1)) (fun x' ρ1 T1 locs1 q ce w1 w2 w3 w5 w6 w7 w8 X1 => ?_)
            cases w1
            obtain ⟨st2, hrun, hend, hW2, hsm⟩ := X1.leaveThrown q (g := F0 m pc lsA (r.map (ai_v ρ))) rfl rfl rfl (ai_cov_out htab (hhn.1 x hpc')) hlocks
            have hh9 : (T1.setFrames (.throwing q :: below)).heap = T1.heap := rfl
            exact ⟨_, st2, kt x _ q ce ρ1 locs1 _ _ rfl hrun hend hW2 hsm w5.2.2 w2 w3 (w5.F hh9) w6 w7 w8 hcc hss⟩
          · cases hr
        · cases hr
      · cases hr
    · -- the end
      split at hr
      · rename_i w hp
        cases hr
        have key : st = w.toList ∧ (∀ x, w = some x → ai_ok h x) ∧ len = 1 := by
          cases ins <;> simp only [ai_ret] at hp <;> first
            | (cases hp; done)
            | (have hl1 : len = 1 := by simpa [ai_lok, ai_len] using hlok
               repeat' split at hp
               all_goals first
                 | (cases hp; done)
                 | (cases hp; refine ⟨rfl, ?_, hl1⟩; intro x z; cases z; done)
                 | (cases hp; refine ⟨rfl, ?_, hl1⟩; intro x z; cases z; exact hst _ List.mem_cons_self))
        obtain ⟨k1, k2, rfl⟩ := key
        subst k1
        exact kr w ρ H locs cells slots lsA pc ins rfl ai_ex.refl hR hS k2 rfl rfl hd hp
      · cases hr
    · -- an exception is made and thrown
      split at hr
      · rename_i hw8
        cases hr
        obtain ⟨rfl, ik, ic, ns, t1, t2, t3, t4, t5, t6, t7⟩ := ht6 rfl
        simp only at t1
        subst t1
        have hrc' : cells + 1 ≤ R.cells := by
          have : cells + (h.2.2.1 + 1) ≤ R.cells + h.2.2.1 := hrc
          omega
        have hrs' : slots + 6 ≤ R.slots := by
          have : slots + (h.2.2.2 + 6) ≤ R.slots + h.2.2.2 := hrs
          omega
        refine ai_throw_W (b := b0) hx hb hl hown hts t2 hz.1 hz.2 hlow hsz hd t4 t5 t6 (ai_cov_out htab t7) hlocks (by omega) (by rw [ai_wt_eq]; omega) hrc' hrs' (fun t q ce z1 z2 z3 z4 z5 z6 z7 z8 z9 => ?_)
        refine kt _ t q ce ρ locs _ _ rfl z1 z2 z3 z4 hS.2.2 ⟨fun _ _ => rfl, fun _ z => z, fun _ _ _ z => z⟩ ?_ ⟨Nat.le_trans hS.1 z5, fun q q1 q2 => ?_⟩ z7 z8 z9 (by show cells + 1 + h.2.2.1 = cells + (h.2.2.1 + 1); omega) (by show slots + 6 + h.2.2.2 = slots + (h.2.2.2 + 6); omega)
        · obtain ⟨dom, h1, hP, hD, hc⟩ := hR
          exact ⟨dom, h1, hP.kept (fun k x hk => z6 _ ((hP k x hk).lt)), hD, hc⟩
        · rw [z6 q (Nat.lt_of_lt_of_le q1 hS.1)]
          exact hS.2.1 q q1 q2
      · cases hr
    · -- Object's constructor
      split at hr
      · rename_i a r
        split at hr
        · rename_i hw8
          obtain ⟨rfl, idx, t1, t2, t3, t4⟩ := ho7 rfl
          simp only at t1
          subst t1
          exact W.objInit hx hb hown (hts _ t2) (hts _ t3) (hts _ t4) (g := F0 m pc lsA ((.inr (.inr (some a)) :: r).map (ai_v ρ))) rfl hsz rfl hd (by omega) (by show 2 * 0 + _ + 12 ≤ _; rw [ai_wt_eq]; omega) (ih _ _ _ _ _ _ hr ρ H locs cells slots lsA hR hS hlr hlen (ai_okt hst) hls hsc hrc hrs kr kt)
        · cases hr
      · cases hr
    · -- Math.max
      split at hr
      · rename_i y9 x9 r
        split at hr
        · rename_i hw8
          obtain ⟨rfl, idx, t1, t2, t3, t4, t5⟩ := hx8 rfl
          simp only at t1
          subst t1
          have m1 := ai_run_mono hmono _ _ _ _ _ _ _ hr
          exact va_mmax hx hb hsz.symm hown (hts _ t2) (hts _ t3) (hts _ t4) (hts _ t5) (by omega) (by rw [ai_wt_eq]; omega) (by omega) (by omega) hd (ih _ _ _ _ _ _ hr ρ H locs cells slots lsA hR hS hlr hlen (ai_oks ai_ok_int (ai_okt (ai_okt hst))) hls hsc hrc hrs kr kt)
        · cases hr
      · cases hr
    · -- Math.min
      split at hr
      · rename_i y9 x9 r
        split at hr
        · rename_i hw8
          obtain ⟨rfl, idx, t1, t2, t3, t4, t5⟩ := hx9 rfl
          simp only at t1
          subst t1
          have m1 := ai_run_mono hmono _ _ _ _ _ _ _ hr
          exact va_mmin hx hb hsz.symm hown (hts _ t2) (hts _ t3) (hts _ t4) (hts _ t5) (by omega) (by rw [ai_wt_eq]; omega) (by omega) (by omega) hd (ih _ _ _ _ _ _ hr ρ H locs cells slots lsA hR hS hlr hlen (ai_oks ai_ok_int (ai_okt (ai_okt hst))) hls hsc hrc hrs kr kt)
        · cases hr
      · cases hr
    · -- the library's own
      split at hr
      · rename_i pc' st' h1 hp
        refine ai_ext_W hx hb hsz.symm hts hown hcl hasg hK hR hS hsc hst hp (hx10 rfl) hd (by omega) (by omega) (fun H' locs' x1 x2 x3 x4 x5 => ?_)
        have e1 : h1.2.2.1 = h.2.2.1 := by rw [x5]
        have e2 : h1.2.2.2 = h.2.2.2 := by rw [x5]
        exact ih _ _ _ _ _ _ hr ρ H' locs' cells slots lsA x2 x3 hlr hlen x4 (fun v hv => x1.ok (hls v hv)) (hsc.step x1) (by omega) (by omega) (kr.step x1 (by omega) (by omega)) (kt.step x1 (by omega) (by omega))
      · cases hr
    · cases hr
end AIM
