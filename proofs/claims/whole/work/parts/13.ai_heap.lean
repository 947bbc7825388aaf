/-! Steps on the heap. -/
def ai_tys (dA : Nat → ClassId) (tyL : List FieldType) : List (ClassId × FieldType) := (List.range tyL.length).map fun t => (dA t, tyL.getD t .float)
theorem ai_tys_at {dA : Nat → ClassId} {tyL : List FieldType} {t : Nat} {ty : FieldType} (h : tyL.getD t .float = ty) (hn : ty ≠ .float) : (ai_tys dA tyL)[t]? = some (dA t, ty) := by
  have hl : t < tyL.length := by
    rcases Nat.lt_or_ge t tyL.length with q | q
    · exact q
    · exfalso
      rw [List.getD_eq_getElem?_getD, List.getElem?_eq_none q] at h
      exact hn h.symm
  simp only [ai_tys, List.getElem?_map, List.getElem?_range hl, Option.map_some, h]
/-- the classes: their words, their fields' types, their fields' names -/
def ai_clok (Ts : List Cond) (cl : List vw_C) (tyF : Nat → Nat → FieldType) : Prop := ∀ (ci : Nat) (C : String) (T : u_T) (N : Nat), cl[ci]? = some (C, T, N) →
  (∀ w ∈ u_ws C T N, w ∈ Ts) ∧ (∀ k, k < N → parseFieldDescriptor (T k).2.2.1 = some (tyF ci k)) ∧ ∀ a, a < N → ∀ b, b < N → a ≠ b → (T a).2.1 ≠ (T b).2.1
/-- a field's link -/
def ai_fok (Ts : List Cond) (cl : List vw_C) (own : String) (idx ci k : Nat) : Prop := ∃ (C : String) (T : u_T) (N : Nat) (ref : String), cl[ci]? = some (C, T, N) ∧ k < N ∧
  (Cond.fieldLink own idx ref (T k).2.1 (T k).2.2.1 ∈ Ts ∨ ∃ host, Cond.fieldLinkNest own idx ref (T k).2.1 (T k).2.2.1 host ∈ Ts) ∧ (ref = (T k).1 ∨ Cond.sameField ref (T k).1 (T k).2.1 (T k).2.2.1 ∈ Ts)
/-- .. one that may be written: not final, or in a constructor of its own class -/
def ai_pok (Ts : List Cond) (cl : List vw_C) (own mn : String) (idx ci k : Nat) : Prop := ∃ (C : String) (T : u_T) (N : Nat) (ref : String), cl[ci]? = some (C, T, N) ∧ k < N ∧ (ref = (T k).1 ∨ Cond.sameField ref (T k).1 (T k).2.1 (T k).2.2.1 ∈ Ts) ∧
  (((T k).2.2.2 = false ∧ (Cond.fieldLink own idx ref (T k).2.1 (T k).2.2.1 ∈ Ts ∨ ∃ host, Cond.fieldLinkNest own idx ref (T k).2.1 (T k).2.2.1 host ∈ Ts)) ∨
   ((T k).2.2.2 = true ∧ mn = "<init>" ∧ (T k).1 = own ∧ Cond.fieldLink own idx ref (T k).2.1 (T k).2.2.1 ∈ Ts))
/-- what a row that works on the heap must keep -/
def ai_hok (Ts : List Cond) (cl : List vw_C) (tyL : List FieldType) (tyF : Nat → Nat → FieldType) (dfl : Nat → List ai_V) (own mn : String) (ins : Instr) (ks : List Nat) : Prop := match ins with
  | .ldc idx => Cond.constant own idx (Int32.ofNat (ks.getD 0 0)) ∈ Ts
  | .ldc_w idx => Cond.constant own idx (Int32.ofNat (ks.getD 0 0)) ∈ Ts
  | .ldc2_w idx => Cond.constantLong own idx (Int64.ofNat (ks.getD 0 0)) ∈ Ts
  | .getfield idx => ai_fok Ts cl own idx (ks.getD 0 0) (ks.getD 1 0)
  | .putfield idx => ai_pok Ts cl own mn idx (ks.getD 0 0) (ks.getD 1 0)
  | .new idx => ∃ (C : String) (T : u_T) (N : Nat), cl[ks.getD 0 0]? = some (C, T, N) ∧ Cond.classLink own idx C ∈ Ts ∧ Cond.instantiable C N ∈ Ts ∧ Cond.initialized C ∈ Ts ∧ (dfl (ks.getD 0 0)).length = N ∧ ∀ j, j < N → ai_v (fun _ => 0) ((dfl (ks.getD 0 0)).getD j (.inr (.inr none))) = defaultValue (tyF (ks.getD 0 0) j) ∧ ∀ a, (dfl (ks.getD 0 0)).getD j (.inr (.inr none)) ≠ .inr (.inr (some a))
  | .newarray at_ => tyL.getD (ks.getD 0 0) .float = newarray.typeOf at_ ∧ newarray.typeOf at_ ≠ .float ∧ newarray.typeOf at_ ≠ .double ∧ Cond.arrayClass (newarray.typeOf at_) ∈ Ts
  | .anewarray idx => ∃ C, tyL.getD (ks.getD 0 0) .float = .object C ∧ Cond.classLink own idx C ∈ Ts ∧ Cond.arrayOver (.object C) ∈ Ts
  | .checkcast idx => ∃ (C : String) (T : u_T) (N : Nat), cl[ks.getD 0 0]? = some (C, T, N) ∧ Cond.classLink own idx C ∈ Ts
  | _ => True
/-- which objects an array of references takes -/
def ai_aok (Ts : List Cond) (cl : List vw_C) (tyL : List FieldType) (asg : Nat → Nat → Bool) : Prop := ∀ t cj, asg t cj = true → ∃ (E : String) (r : vw_C), tyL.getD t .float = .object E ∧ cl[cj]? = some r ∧ (r.1 = E ∨ Cond.castable r.1 E ∈ Ts)
theorem ai_fit_char {x : Int32} (h1 : 0 ≤ x) (h2 : x ≤ 65535) : x.toUInt32.toUInt16.toUInt32.toInt32 = x := by
  have e1 := Int32.le_iff_toInt_le.mp h1
  have e2 := Int32.le_iff_toInt_le.mp h2
  have z1 : (0 : Int32).toInt = 0 := by decide
  have z2 : (65535 : Int32).toInt = 65535 := by decide
  exact lg_i2c_small (by omega) (by omega)
theorem ai_fit_ok {ρ : ai_A → Nat} {ty : FieldType} {v : ai_V} (h : ai_fit ty v = true) : narrow ty (ai_v ρ v) = ai_v ρ v ∧ fits ty (ai_v ρ v) = true := by
  cases ty
  case boolean =>
    rcases v with x | x | _ | a
    · have h : x = 0 ∨ x = 1 := by simpa [ai_fit] using h
      rcases h with rfl | rfl
      · exact ⟨rfl, rfl⟩
      · exact ⟨rfl, rfl⟩
    all_goals (simp [ai_fit] at h)
  case char =>
    rcases v with x | x | _ | a
    · have h : 0 ≤ x ∧ x ≤ 65535 := by simpa [ai_fit] using h
      refine ⟨?_, ?_⟩
      · show Value.int _ = Value.int x
        rw [ai_fit_char h.1 h.2]
      · show (decide (0 ≤ x) && decide (x ≤ 65535)) = true
        simp [h.1, h.2]
    all_goals (simp [ai_fit] at h)
  all_goals (rcases v with x | x | _ | a <;> first | exact ⟨rfl, rfl⟩ | (simp [ai_fit] at h; done))
section AI2
variable {p : Program} {l : Launch} {e : Env} {R : Room} {s : State} {m : MethodId} {args : Array Value} {below : List Frame} {meth : Method} {c : Code} {H : Heap} {locs : List Loc} {cells slots : Nat} {Q : State → Prop}
variable {cc : ByteArray} {pc : Nat} {lsA : Array Slot} {ρ : ai_A → Nat} {D : va_G} {cl : List vw_C} {dA : Nat → ClassId} {B : Nat → Prop} {h h' : ai_H} {Ts : List Cond} {tyL : List FieldType} {tyF : Nat → Nat → FieldType} {dfl : Nat → List ai_V} {own : String} {ks : List Nat}
theorem ai_link (hts : ∀ w ∈ Ts, w.before args s = true) {ref o n d : String} (hr : ref = o ∨ Cond.sameField ref o n d ∈ Ts) : ∀ x, s.fieldFound? o n d = some x → s.fieldFound? ref n d = some x := by
  rcases hr with rfl | hr
  · exact fun _ z => z
  · exact fun x z => u_same (hts _ hr) x z
/-- a read leaves all as it was -/
theorem ai_get_W (hx : p.tables.exec = Jvm.exec) (hb : c.code = cc) (hts : ∀ w ∈ Ts, w.before args s = true) (hown : s.vm.findClass own = some m.cls) (hcl : ai_clok Ts cl tyF) {tys : List (ClassId × FieldType)} (hK : va_K D cl tys s) (hR : ai_R D cl dA B ρ h H)
    {idx ci k : Nat} {fs : List ai_V} {a : ai_A} {v : ai_V} {rest : List Value} (ha : h.1 a = some (.inl (ci, fs))) (hv : fs[k]? = some v) (hok : ai_fok Ts cl own idx ci k) (hd : decode cc pc = .ok (.getfield idx, 3))
    (kk : W p l e R s m args below meth c H locs cells slots Q (F0 m (pc + 3) lsA (ai_v ρ v :: rest))) : W p l e R s m args below meth c H locs cells slots Q (F0 m pc lsA (.ref (ρ a) :: rest)) := by
  obtain ⟨dom, h1, hP, hD, hc⟩ := hR
  obtain ⟨j, -, hj⟩ := ai_R.idx (D := D) (cl := cl) (dA := dA) (ρ := ρ) h1 ha rfl
  obtain ⟨C, T, N, ref, g1, g2, g3, g4⟩ := hok
  obtain ⟨w1, -, -⟩ := hcl _ _ _ _ g1
  have hv' : (fs.map (ai_v ρ))[k]? = some (ai_v ρ v) := by simp [hv]
  rcases g3 with g3 | ⟨host, g3⟩
  · exact va_get hx hb hts w1 hown hK hP j hj g1 k g2 (hts _ g3) (ai_link hts g4) hv' hd kk
  · exact va_getN hx hb hts w1 hown hK hP j hj g1 k g2 (hts _ g3) (ai_link hts g4) hv' hd kk
theorem ai_put_W (hx : p.tables.exec = Jvm.exec) (hb : c.code = cc) (hts : ∀ w ∈ Ts, w.before args s = true) (hown : s.vm.findClass own = some m.cls) (hcl : ai_clok Ts cl tyF) {tys : List (ClassId × FieldType)} (hK : va_K D cl tys s) (hR : ai_R D cl dA B ρ h H) (hS : va_S B s.heap H locs)
    {idx ci k : Nat} {fs : List ai_V} {a : ai_A} {v : ai_V} {rest : List Value} (ha : h.1 a = some (.inl (ci, fs))) (hl : k < fs.length) (hf : ai_fit (tyF ci k) v = true) (hv : ai_ok h v) (hok : ai_pok Ts cl own meth.name idx ci k) (hd : decode cc pc = .ok (.putfield idx, 3))
    (kk : ∀ (H1 : Heap) (locs1 : List Loc), ai_R D cl dA B ρ (ai_put h a (.inl (ci, fs.set k v))) H1 → va_S B s.heap H1 locs1 → W p l e R s m args below meth c H1 locs1 cells slots Q (F0 m (pc + 3) lsA rest)) :
    W p l e R s m args below meth c H locs cells slots Q (F0 m pc lsA (ai_v ρ v :: .ref (ρ a) :: rest)) := by
  obtain ⟨dom, h1, hP, hD, hc⟩ := hR
  obtain ⟨j, hj0, hj⟩ := ai_R.idx (D := D) (cl := cl) (dA := dA) (ρ := ρ) h1 ha rfl
  obtain ⟨C, T, N, ref, g1, g2, g4, g3⟩ := hok
  obtain ⟨w1, w2, w3⟩ := hcl _ _ _ _ g1
  obtain ⟨f1, f2⟩ := ai_fit_ok (ρ := ρ) hf
  have hx' : ai_cok h (.inl (ci, fs.set k v)) := fun w hw => by
    rcases List.mem_or_eq_of_mem_set hw with z | z
    · exact hc _ _ ha w z
    · rw [z]; exact hv
  have he : ai_e dA ρ (.inl (ci, fs.set k v)) = .inr (ci, (fs.map (ai_v ρ)).set k (ai_v ρ v)) := by
    show Sum.inr (ci, (fs.set k v).map (ai_v ρ)) = _
    rw [List.map_set]
  have fin : ∀ (H1 : Heap) (locs1 : List Loc), va_P D cl ((ai_ws dA ρ h dom).set j (ρ a, .inr (ci, (fs.map (ai_v ρ)).set k (ai_v ρ v)))) H1 → va_D B ((ai_ws dA ρ h dom).set j (ρ a, .inr (ci, (fs.map (ai_v ρ)).set k (ai_v ρ v)))) → va_S B s.heap H1 locs1 → W p l e R s m args below meth c H1 locs1 cells slots Q (F0 m (pc + 3) lsA rest) := by
    intro H1 locs1 q1 q2 q3
    rw [← he] at q1 q2
    exact kk H1 locs1 (ai_R.put h1 hc hD hj0 ha rfl rfl hx' q1 q2) q3
  rcases g3 with ⟨g5, g3 | ⟨host, g3⟩⟩ | ⟨g5, g6, g7, g3⟩
  · exact va_put hx hb hts w1 (tyF ci) w2 w3 hown hK hP hD hS j hj g1 k g2 (hts _ g3) (ai_link hts g4) g5 (w2 k g2) f1 f2 (by simpa using hl) hd fin
  · exact va_putN hx hb hts w1 (tyF ci) w2 w3 hown hK hP hD hS j hj g1 k g2 (hts _ g3) (ai_link hts g4) g5 (w2 k g2) f1 f2 (by simpa using hl) hd fin
  · exact va_putF hx hb hts w1 (tyF ci) w2 w3 hown hK hP hD hS j hj g1 k g2 (hts _ g3) (ai_link hts g4) g5 g6 g7 (w2 k g2) f1 f2 (by simpa using hl) hd fin
/-- a store to an array -/
theorem ai_st_fin {dom : List ai_A} {j t n t' n' : Nat} {a : ai_A} {d d' : ai_D} {q0 : Nat} {rest : List Value}
    (h1 : ∀ a, a ∈ dom ↔ ∃ x, h.1 a = some x ∧ ai_solid x = true) (hc : ∀ a x, h.1 a = some x → ai_cok h x) (hD : va_D B (ai_ws dA ρ h dom)) (hj0 : dom[j]? = some a) (ha : h.1 a = some (.inr (.inl (t, n, d)))) (hx' : ai_cok h (.inr (.inl (t', n', d'))))
    (kk : ∀ (H1 : Heap) (locs1 : List Loc), ai_R D cl dA B ρ (ai_put h a (.inr (.inl (t', n', d')))) H1 → va_S B s.heap H1 locs1 → W p l e R s m args below meth c H1 locs1 cells slots Q (F0 m q0 lsA rest))
    {E : va_E} (hE : E = ai_e dA ρ (.inr (.inl (t', n', d')))) (H1 : Heap) (locs1 : List Loc) (q1 : va_P D cl ((ai_ws dA ρ h dom).set j (ρ a, E)) H1) (q2 : va_D B ((ai_ws dA ρ h dom).set j (ρ a, E))) (q3 : va_S B s.heap H1 locs1) :
    W p l e R s m args below meth c H1 locs1 cells slots Q (F0 m q0 lsA rest) := by
  subst hE
  exact kk H1 locs1 (ai_R.put h1 hc hD hj0 ha rfl rfl hx' q1 q2) q3
end AI2
