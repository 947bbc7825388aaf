/-! What calls must keep; the step that finds the callee. -/
abbrev ai_M : Type := Nat → Option (MethodName × ByteArray × List (Nat × Nat × Nat × Nat))
def ai_lnk (Ts : List Cond) (own : String) (idx : Nat) (y : MethodName) : Prop := Cond.methodLink own idx y ∈ Ts ∨ ∃ host, Cond.methodLinkNest own idx y host ∈ Ts
/-- a call's row: y the callee, n its parameters -/
def ai_iok (Ts : List Cond) (cl : List vw_C) (own : String) (y : MethodName) (n : Nat) (ins : Instr) (ks : List Nat) : Prop := match ins with
  | .invokestatic idx => ks.getD 1 0 = n ∧ Cond.static y ∈ Ts ∧ ai_lnk Ts own idx y
  | .invokespecial idx => ks.getD 1 0 = n + 1 ∧ y.name = "<init>" ∧ Cond.instanceMethod y ∈ Ts ∧ ai_lnk Ts own idx y
  | .invokevirtual idx => ks.getD 1 0 = n + 1 ∧ Cond.instanceMethod y ∈ Ts ∧ ai_lnk Ts own idx y ∧ ∃ (C : String) (T : u_T) (N : Nat), cl[ks.getD 2 0]? = some (C, T, N) ∧ Cond.selects C y y ∈ Ts
  | _ => False
theorem ai_args_spec {ins : Instr} {ks : List Nat} {st av r : List ai_V} {h : ai_H} (hp : ai_args ins ks st h = some (av, r)) : st = av.reverse ++ r ∧ av.length = ks.getD 1 0 ∧ ai_wt r ≤ 8 ∧ (∀ idx, ins = .invokespecial idx → ∃ a vs, av = .inr (.inr (some a)) :: vs) ∧ (∀ idx, ins = .invokevirtual idx → ∃ a vs fs, av = .inr (.inr (some a)) :: vs ∧ h.1 a = some (.inl (ks.getD 2 0, fs))) := by
  unfold ai_args at hp
  split at hp
  · rename_i hc
    obtain ⟨h1, h2⟩ := hc
    have base : ∀ {av r : List ai_V}, (st.take (ks.getD 1 0)).reverse = av → st.drop (ks.getD 1 0) = r → st = av.reverse ++ r ∧ av.length = ks.getD 1 0 ∧ ai_wt r ≤ 8 := by
      intro av r e1 e2
      subst e1; subst e2
      refine ⟨by rw [List.reverse_reverse, List.take_append_drop], by rw [List.length_reverse, List.length_take]; omega, h2⟩
    split at hp
    · cases hp
      obtain ⟨b1, b2, b3⟩ := base rfl rfl
      exact ⟨b1, b2, b3, fun _ z => (nomatch z), fun _ z => (nomatch z)⟩
    · split at hp
      · rename_i a vs hv
        cases hp
        obtain ⟨b1, b2, b3⟩ := base hv rfl
        exact ⟨b1, b2, b3, fun _ _ => ⟨a, vs, rfl⟩, fun _ z => (nomatch z)⟩
      · cases hp
    · split at hp
      · rename_i a vs hv
        split at hp
        · rename_i cj fs ha
          split at hp
          · rename_i hcj
            cases hp
            subst hcj
            obtain ⟨b1, b2, b3⟩ := base hv rfl
            exact ⟨b1, b2, b3, fun _ z => (nomatch z), fun _ _ => ⟨a, vs, fs, rfl, ha⟩⟩
          · cases hp
        · cases hp
      · cases hp
    · cases hp
  · cases hp
section AIL
variable {p : Program} {l : Launch} {e : Env} {R : Room} {s : State} {m : MethodId} {args : Array Value} {below : List Frame} {meth : Method} {c : Code} {T : State} {H : Heap} {locs : List Loc} {cells slots : Nat}
variable {cc : ByteArray} {pc : Nat} {lsA : Array Slot} {ρ : ai_A → Nat} {D : va_G} {cl : List vw_C} {dA : Nat → ClassId} {B : Nat → Prop} {h : ai_H} {Ts : List Cond} {own : String} {ks : List Nat}
/-- the callee's code, by its word -/
def ai_cw (Ts : List Cond) (y : MethodName) (cY : ByteArray) (maxL : Nat) (ret : Option FieldType) (hh : List (Nat × Nat × Nat × Nat)) : Prop := (hh = [] ∧ Cond.code y cY maxL ret ∈ Ts) ∨ Cond.codeWith y cY maxL ret hh ∈ Ts
theorem ai_cw_spec {U : State} {a : Array Value} {y : MethodName} {cY : ByteArray} {maxL : Nat} {ret : Option FieldType} {hh : List (Nat × Nat × Nat × Nat)} (hts : ∀ w ∈ Ts, w.before a U = true) (hw : ai_cw Ts y cY maxL ret hh) :
    ∃ mk methY cd, U.methodNamed? y = some mk ∧ U.vm.method? mk = some methY ∧ methY.code = some cd ∧ cd.code = cY ∧ cd.maxLocals = maxL ∧ cd.exceptionTable.toList.map (fun x => (x.startPc, x.endPc, x.handlerPc, x.catchType)) = hh ∧ methY.sig.returnType = ret ∧ methY.locks = false ∧ parseMethodDescriptor y.desc = some methY.sig := by
  rcases hw with ⟨rfl, hw⟩ | hw
  · obtain ⟨mk, hn⟩ := Cond.code_named (hts _ hw)
    obtain ⟨methY, cd, h1, h2, h3, h4, h5, h6, h7, h8⟩ := Cond.code_spec hn (hts _ hw)
    refine ⟨mk, methY, cd, hn, h1, h2, h3, h4, ?_, h5, h6, h8⟩
    have : cd.exceptionTable.toList = [] := by simpa using h7
    rw [this]
    rfl
  · obtain ⟨mk, methY, cd, hn, h1, h2, h3, h4, h5, h6, h7, h8⟩ := Cond.codeWith_spec (hts _ hw)
    exact ⟨mk, methY, cd, hn, h1, h2, h3, h4, h5, h6, h7, h8⟩
set_option maxHeartbeats 2000000 in
theorem ai_find (X : Stand p l e R s m args below meth c T locs cells slots) (hx : p.tables.exec = Jvm.exec) (hb : c.code = cc) (hts : ∀ w ∈ Ts, w.before args s = true) (hown : s.vm.findClass own = some m.cls) {tys : List (ClassId × FieldType)} (hK : va_K D cl tys s) (hT : T.heap = H) (hR : ai_R D cl dA B ρ h H)
    {y : MethodName} {n : Nat} {ins : Instr} {st av r : List ai_V} {cY : ByteArray} {maxL : Nat} {ret : Option FieldType} {hh : List (Nat × Nat × Nat × Nat)} (hp : ai_args ins ks st h = some (av, r)) (hok : ai_iok Ts cl own y n ins ks) (hn : (parseMethodDescriptor y.desc).map (fun d => d.parameters.length) = some n)
    (hcw : ai_cw Ts y cY maxL ret hh) (hin : y.name = "<init>" → hh = [] ∧ ret = none ∧ Cond.code y cY maxL none ∈ Ts) (hini : Cond.initialized y.cls ∈ Ts) (hy : y.cls ≠ "java/lang/invoke/MethodHandle" ∧ y.cls ≠ "java/lang/invoke/VarHandle") (hd : decode cc pc = .ok (ins, 3)) :
    ∃ mk vm₁, s.methodNamed? y = some mk ∧ s.WarmedH vm₁ ∧ Stand p l e R s m args below meth c (T.setVm vm₁) locs cells slots ∧
      ∀ target, Steps p.tables e below (doInvoke e ((T.setVm vm₁).setTop (F0 m pc lsA (r.map (ai_v ρ)))) [] mk (av.map (ai_v ρ)).toArray).1 target → Steps p.tables e below (T.setTop (F0 m pc lsA (st.map (ai_v ρ)))) target := by
  obtain ⟨a1, a2, a3, a4, a5⟩ := ai_args_spec hp
  obtain ⟨mk, methY, cd, hnm, hm, hcd, hcb, hcm, hce, hcr, hcl, hcs⟩ := ai_cw_spec hts hcw
  have hnp : n = methY.sig.parameters.length := by
    rw [hcs] at hn
    exact (Option.some.inj hn).symm
  subst a1
  cases ins
  case invokestatic idx =>
    obtain ⟨g1, g2, g3⟩ := hok
    have hstat : methY.isStatic = true := Cond.static_spec hnm hm (hts _ g2)
    obtain ⟨kP, hkP, -⟩ := className_of_methodNamed hnm
    have hiP : kP.init = .initialized := Cond.initialized_spec (findClass_of_methodNamed hnm) hkP (hts _ hini)
    have hstack : (F0 m pc lsA ((av.reverse ++ r).map (ai_v ρ))).stack = (av.map (ai_v ρ)).reverse ++ r.map (ai_v ρ) := by simp
    have hlen : (av.map (ai_v ρ)).length = methY.sig.parameters.length := by rw [List.length_map, a2, g1, hnp]
    rcases g3 with g3 | ⟨host, g3⟩
    · obtain ⟨vm₁, X₁, st₁⟩ := X.invokestatic hx hown (hts _ g3) hnm hm hstat hkP hiP hy (g := F0 m pc lsA ((av.reverse ++ r).map (ai_v ρ))) rfl hlen hstack (by rw [hb]; exact hd)
      exact ⟨mk, vm₁, hnm, X₁.warmed, X₁, fun target hr => st₁ _ fun acts => by rw [doInvoke_state]; exact hr⟩
    · obtain ⟨vm₁, X₁, st₁⟩ := X.invokestaticNest hx hown (hts _ g3) hnm hm hstat hkP hiP hy (g := F0 m pc lsA ((av.reverse ++ r).map (ai_v ρ))) rfl hlen hstack (by rw [hb]; exact hd)
      exact ⟨mk, vm₁, hnm, X₁.warmed, X₁, fun target hr => st₁ _ fun acts => by rw [doInvoke_state]; exact hr⟩
  case invokespecial idx =>
    obtain ⟨g1, g2, g4, g3⟩ := hok
    obtain ⟨a, vs, rfl⟩ := a4 idx rfl
    obtain ⟨i1, i2, i3⟩ := hin g2
    have hpl : e.platform.magicAccessors = ({} : Platform).magicAccessors := by rw [X.admits.platform]
    have hstack : (F0 m pc lsA (((Sum.inr (Sum.inr (some a)) :: vs).reverse ++ r).map (ai_v ρ))).stack = (vs.map (ai_v ρ)).reverse ++ .ref (ρ a) :: r.map (ai_v ρ) := by simp [ai_v]
    have hlen : ∀ sig, parseMethodDescriptor y.desc = some sig → (vs.map (ai_v ρ)).length = sig.parameters.length := by
      intro sig hs
      cases hcs.symm.trans hs
      rw [List.length_map, ← hnp]
      have : vs.length + 1 = n + 1 := by rw [← g1, ← a2, List.length_cons]
      omega
    rcases g3 with g3 | ⟨host, g3⟩
    · obtain ⟨mk', methM, cM, kP, vm₁, hnamed, hmethM, hcodeM, -, hlocalsM, -, hkP, -, hW₁, st₁⟩ := Steps.initColdArgs (e := e) X.here hx X.warmed hpl hown g2 hy (hts _ g3) (hts _ g4) (hts _ i3) (f := F0 m pc lsA (((Sum.inr (Sum.inr (some a)) :: vs).reverse ++ r).map (ai_v ρ))) rfl hlen hstack (by rw [hb]; exact hd)
      cases hnm.symm.trans hnamed
      exact ⟨mk, vm₁, hnm, hW₁, X.noted hW₁, fun target hr => st₁ _ fun acts => by rw [doInvoke_state]; exact hr⟩
    · obtain ⟨mk', methM, cM, kP, vm₁, hnamed, hmethM, hcodeM, -, hlocalsM, -, hkP, -, hW₁, st₁⟩ := Steps.initColdArgsNest (e := e) X.here hx X.warmed hpl hown g2 hy (hts _ g3) (hts _ g4) (hts _ i3) (f := F0 m pc lsA (((Sum.inr (Sum.inr (some a)) :: vs).reverse ++ r).map (ai_v ρ))) rfl hlen hstack (by rw [hb]; exact hd)
      cases hnm.symm.trans hnamed
      exact ⟨mk, vm₁, hnm, hW₁, X.noted hW₁, fun target hr => st₁ _ fun acts => by rw [doInvoke_state]; exact hr⟩
  case invokevirtual idx =>
    obtain ⟨g1, g4, g3, C, T0, N, g5, g6⟩ := hok
    obtain ⟨a, vs, fs, rfl, ha⟩ := a5 idx rfl
    obtain ⟨mk', methM, hnamed, hmethM, hstM, habM⟩ := Cond.instanceMethod_spec (hts _ g4)
    cases hnm.symm.trans hnamed
    cases hm.symm.trans hmethM
    obtain ⟨dom, h1, hP, hD, hc⟩ := hR
    obtain ⟨j, -, hj⟩ := ai_R.idx (D := D) (cl := cl) (dA := dA) (ρ := ρ) h1 ha rfl
    obtain ⟨cellB, hcB, hoB, hclB⟩ := va_recv hK hP g5 hj
    obtain ⟨c2, r2, m2, q1, q2, q3, q4, kP, hkP, hkPi⟩ := Cond.selects_spec (hts _ g6)
    cases hclB.symm.trans q1
    cases (State.methodFound?_of_named hnm hy).symm.trans q2
    cases hnm.symm.trans q3
    have hselP : selectMethod e.platform s.vm cellB.cls mk = .method mk := by rw [Launch.admits_selectMethod X.admits]; exact q4
    have hstack : (F0 m pc lsA (((Sum.inr (Sum.inr (some a)) :: vs).reverse ++ r).map (ai_v ρ))).stack = (vs.map (ai_v ρ)).reverse ++ .ref (ρ a) :: r.map (ai_v ρ) := by simp [ai_v]
    have hlen : (vs.map (ai_v ρ)).length = methY.sig.parameters.length := by
      rw [List.length_map, ← hnp]
      have : vs.length + 1 = n + 1 := by rw [← g1, ← a2, List.length_cons]
      omega
    rcases g3 with g3 | ⟨host, g3⟩
    · obtain ⟨vm₁, X₁, st₁⟩ := X.invokevirtual hx hown (hts _ g3) hnm hm hstM hkP hkPi hy (a := ρ a) (cell := cellB) (by rw [hT]; exact hcB) (fun z h => by rw [h] at hoB; cases hoB) hselP hm habM hkP hkPi (g := F0 m pc lsA (((Sum.inr (Sum.inr (some a)) :: vs).reverse ++ r).map (ai_v ρ))) rfl hlen hstack (by rw [hb]; exact hd)
      exact ⟨mk, vm₁, hnm, X₁.warmed, X₁, fun target hr => st₁ _ fun acts => by rw [doInvoke_state]; exact hr⟩
    · obtain ⟨vm₁, X₁, st₁⟩ := X.invokevirtualNest hx hown (hts _ g3) hnm hm hstM hkP hkPi hy (a := ρ a) (cell := cellB) (by rw [hT]; exact hcB) (fun z h => by rw [h] at hoB; cases hoB) hselP hm habM hkP hkPi (g := F0 m pc lsA (((Sum.inr (Sum.inr (some a)) :: vs).reverse ++ r).map (ai_v ρ))) rfl hlen hstack (by rw [hb]; exact hd)
      exact ⟨mk, vm₁, hnm, X₁.warmed, X₁, fun target hr => st₁ _ fun acts => by rw [doInvoke_state]; exact hr⟩
  all_goals exact absurd hok (fun z => z)
end AIL
