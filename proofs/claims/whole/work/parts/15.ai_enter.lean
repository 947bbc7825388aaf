/-! A call: what the callee's promise gives at the caller's frame. A promise speaks of both ends, answer and throw; L, mc, ms: what was written, how much was made. -/
def ai_End (B : Nat → Prop) (mc ms : Nat) (Qr : State → Option Value → State → Prop) (Qt : State → Addr → State → Prop) : Array Value → State → Outcome → State → Prop := fun _ st o t =>
  ∃ L : List Loc, (∀ z ∈ L, B z.base) ∧ st.WarmedH t.vm ∧ st.sameButNew ({ t with vm := st.vm } : State) L mc ms ∧ ((∃ v, o = .returned v ∧ Qr st v t) ∨ ∃ q, o = .threw q ∧ Qt st q t)
def ai_Met (l : Launch) (y : MethodName) (Ts : List Cond) (rm : Room) (Pc : Array Value → State → Prop) (B : Nat → Prop) (Qr : State → Option Value → State → Prop) (Qt : State → Addr → State → Prop) : Prop :=
  MetFree l y (headSpec Ts rm) Pc (fun _ _ _ _ _ => True) (ai_End B rm.cells rm.slots Qr Qt)
/-- where the method's code is found, ready to run -/
def ai_Code (U : State) (mk : MethodId) (maxL : Nat) : Prop := ∃ (methY : Method) (cY : Code) (kY : Class), U.vm.method? mk = some methY ∧ methY.code = some cY ∧ cY.maxLocals = maxL ∧ U.vm.classes[mk.cls]? = some kY ∧ kY.init = .initialized
section AIE
variable {p : Program} {l : Launch} {e : Env} {R : Room} {s : State} {m : MethodId} {args : Array Value} {below : List Frame} {meth : Method} {c : Code} {U : State} {locs : List Loc} {cells slots : Nat}
set_option maxHeartbeats 2000000 in
theorem ai_enter {y : MethodName} {Ts : List Cond} {rm : Room} {Pc : Array Value → State → Prop} {B : Nat → Prop} {Qr : State → Option Value → State → Prop} {Qt : State → Addr → State → Prop} (hM : ai_Met l y Ts rm Pc B Qr Qt)
    (X : Stand p l e R s m args below meth c U locs cells slots) {g : JFrame} (hg : g.method = m) (hsize : g.locals.size = c.maxLocals) {ig : Instr} {len : Nat} (hdg : decode c.code g.pc = .ok (ig, len))
    (hW : 2 * g.monitorRoom + (g.stack.map fun v => v.category).sum ≤ 8) {mk : MethodId} {maxL : Nat} (hn : U.methodNamed? y = some mk) (hY : ai_Code U mk maxL) {a : Array Value} (hpre : ∀ w ∈ Ts, w.before a U = true) (hPc : Pc a (U.calling g mk a))
    (hframes : rm.frames + 1 ≤ R.frames) (hlocals : 8 + (maxL + 11) + rm.locals ≤ R.locals) (hrc : cells + rm.cells ≤ R.cells) (hrs : slots + rm.slots ≤ R.slots) :
    ∃ (T' t st₀ : State) (L : List Loc), st₀.heap = U.heap ∧ st₀.vm = U.vm ∧ T'.heap = t.heap ∧ T'.vm = t.vm ∧ (∀ z ∈ L, B z.base) ∧ Stand p l e R s m args below meth c T' (locs ++ L) (cells + rm.cells) (slots + rm.slots) ∧
      ((∃ v, Qr st₀ v t ∧ Steps p.tables e below (doInvoke e (U.setTop g) [] mk a).1 (T'.setTop { g with pc := g.pc + len, stack := v.toList ++ g.stack })) ∨
       ∃ q, Qt st₀ q t ∧ Steps p.tables e below (doInvoke e (U.setTop g) [] mk a).1 ((T'.setTop g).pushFrame (.throwing q))) := by
  subst hg
  obtain ⟨methY, cY, kY, hmY, hcY, hlY, hkY, hiY⟩ := hY
  have h : At U g.method c below := X.here
  have happ : (headSpec Ts rm).appliesLoose y e.platform (U.calling g mk a) = true :=
    Spec.appliesLoose_calling (g := g) h hdg hn hkY hiY (X.room_calling (g := g) (R' := rm) hsize hmY hcY hframes (by rw [hlY]; omega) hrc hrs) (atoms_intro hpre)
  obtain ⟨mid, hmid⟩ := h.above
  have hfr : (U.setTop g).frames = (.java g :: mid) ++ below := by rw [State.frames_setTop' g h.top, hmid]; rfl
  obtain ⟨o, t, hsteps, -, hend, hq⟩ := Steps.callFree hM p X.admits X.cas X.clock (acts := []) hfr happ hPc trivial
  have hq : ai_End B rm.cells rm.slots Qr Qt a (U.calling g mk a) o t := hq
  rw [State.frames_setTop' g h.top] at hend
  obtain ⟨L, hL, hWt, hsm, hout⟩ := hq
  obtain ⟨e2, q2, q3, q4, q5, q6⟩ := id hsm
  have hWU : U.WarmedH t.vm := hWt
  obtain ⟨g₀, hg0⟩ := Option.isSome_iff_exists.mp h.top
  obtain ⟨r, hr⟩ := State.topJava?_eq_some.mp hg0
  obtain ⟨T', hT'⟩ : ∃ z : State, z = ({ U with heap := t.heap, slotsUsed := t.slotsUsed } : State).setVm t.vm := ⟨_, rfl⟩
  have hr' : T'.frames = .java g₀ :: r := by rw [hT']; exact hr
  have e3 : t = ({ (U.calling g mk a).setFrames t.frames with heap := t.heap, slotsUsed := t.slotsUsed } : State).setVm t.vm := by
    have z : t = ({ t with vm := (U.calling g mk a).vm } : State).setVm t.vm := rfl
    rw [e2] at z
    exact z
  have hsame : U.sameButNew ({ U with heap := t.heap, slotsUsed := t.slotsUsed } : State) L rm.cells rm.slots := by
    refine ⟨?_, q2, q3, q4, q5, q6⟩
    obtain ⟨th, hth, -⟩ := State.frames_cons hr
    show ({ U with heap := t.heap, slotsUsed := t.slotsUsed } : State) = { U.setFrames U.frames with heap := t.heap, slotsUsed := t.slotsUsed }
    rw [State.setFrames_self hth]
  have XT : Stand p l e R s g.method args below meth c T' (locs ++ L) (cells + rm.cells) (slots + rm.slots) := by
    rw [hT']
    exact ⟨X.admits, X.cas, X.clock, X.frames, X.room, X.hears, X.method, X.code, (X.here.setHeapUsed t.heap t.slotsUsed).setVm hWU.alike, X.tail, State.WarmedH.trans X.warmed hWU, X.limits, X.bytes, X.same.trans (hsame.setVm s.vm)⟩
  refine ⟨T', t, U.calling g mk a, L, rfl, rfl, by rw [hT']; rfl, by rw [hT']; rfl, hL, XT, ?_⟩
  rcases hout with ⟨v, rfl, hv⟩ | ⟨q, rfl, hv⟩
  · refine Or.inl ⟨v, hv, ?_⟩
    obtain ⟨c₂, i₂, len₂, hc₂, hd₂, hf₂⟩ := hend
    have hcc : c₂ = c := by
      have z : t.code? g.method = U.code? g.method := by rw [State.code?_eq, State.code?_eq, hWU.alike.method?]
      exact Option.some.inj (hc₂.symm.trans (z.trans h.code))
    subst hcc
    have hlen : len₂ = len := by rw [hdg] at hd₂; cases hd₂; rfl
    subst hlen
    have hs₂ : t = T'.setTop { g with pc := g.pc + len₂, stack := v.toList ++ g.stack } := by
      refine e3.trans ?_
      rw [hf₂, State.calling_eq h.top, State.setFrames_setFrames, State.setTop_of_frames _ hr', hT', hr]
      rfl
    rw [← hs₂]
    exact hsteps
  · refine Or.inr ⟨q, hv, ?_⟩
    have hf₂ : t.frames = .throwing q :: .java g :: U.frames.tail := hend
    have hs₂ : t = (T'.setTop g).pushFrame (.throwing q) := by
      refine e3.trans ?_
      rw [hf₂, State.calling_eq h.top, State.setFrames_setFrames, State.pushFrame, State.frames_setTop _ hr', State.setTop_of_frames _ hr', State.setFrames_setFrames, hT', hr]
      rfl
    rw [← hs₂]
    exact hsteps
end AIE
