/-! What was there before the law began: the script (0), the empty array of lists (2), the class of arrays of objects (3). -/
def ai_scr (b0 L : Nat) (xs : Nat → Int32) (ρ : ai_A → Nat) (h : ai_H) (U : State) : Prop :=
  (∀ a, h.1 a = some (.inr (.inr 0)) → va_X (ρ a) L xs U U.heap ∧ ρ a < b0) ∧
  (∀ a, h.1 a = some (.inr (.inr 2)) → va_Z "java/util/ArrayList" "DEFAULTCAPACITY_EMPTY_ELEMENTDATA" "[Ljava/lang/Object;" (.ref (ρ a)) (fun q => b0 ≤ q) U U.heap ∧ va_T (.object "java/lang/Object") (ρ a) 0 (fun _ => .null) (fun q => b0 ≤ q) U U.heap) ∧
  ∀ a, h.1 a = some (.inr (.inr 3)) → va_Mi "[Ljava/lang/Object;" (ρ a) U
/-- from one heap to a later one -/
def ai_ex (h : ai_H) (ρ : ai_A → Nat) (h' : ai_H) (ρ' : ai_A → Nat) : Prop := ai_le h ρ ρ' ∧ (∀ b, (h.1 b).isSome = true → (h'.1 b).isSome = true) ∧ ∀ b k, k ≠ 1 → h'.1 b = some (.inr (.inr k)) → h.1 b = some (.inr (.inr k))
theorem ai_ex.refl {h : ai_H} {ρ : ai_A → Nat} : ai_ex h ρ h ρ := ⟨fun _ _ => rfl, fun _ z => z, fun _ _ _ z => z⟩
theorem ai_ex.trans {h h1 h2 : ai_H} {ρ ρ1 ρ2 : ai_A → Nat} (a : ai_ex h ρ h1 ρ1) (b : ai_ex h1 ρ1 h2 ρ2) : ai_ex h ρ h2 ρ2 :=
  ⟨fun q z => (b.1 q (a.2.1 q z)).trans (a.1 q z), fun q z => b.2.1 q (a.2.1 q z), fun q k hk z => a.2.2 q k hk (b.2.2 q k hk z)⟩
theorem ai_ex.ok {h h1 : ai_H} {ρ ρ1 : ai_A → Nat} (a : ai_ex h ρ h1 ρ1) {v : ai_V} (hv : ai_ok h v) : ai_ok h1 v := fun q z => a.2.1 q (hv q z)
theorem ai_scr.step {b0 L : Nat} {xs : Nat → Int32} {ρ ρ1 : ai_A → Nat} {h h1 : ai_H} {U : State} (k : ai_scr b0 L xs ρ h U) (x : ai_ex h ρ h1 ρ1) : ai_scr b0 L xs ρ1 h1 U := by
  refine ⟨fun a ha => ?_, fun a ha => ?_, fun a ha => ?_⟩
  · have h0 := x.2.2 a 0 (by decide) ha
    rw [x.1 a (by rw [h0]; rfl)]
    exact k.1 a h0
  · have h0 := x.2.2 a 2 (by decide) ha
    rw [x.1 a (by rw [h0]; rfl)]
    exact k.2.1 a h0
  · have h0 := x.2.2 a 3 (by decide) ha
    rw [x.1 a (by rw [h0]; rfl)]
    exact k.2.2 a h0
theorem ai_scr.moved {b0 L : Nat} {xs : Nat → Int32} {ρ : ai_A → Nat} {h : ai_H} {u U : State} (k : ai_scr b0 L xs ρ h u) (hvm : u.vm.Alike U.vm) (hh : ∀ q, q < b0 → U.heap[q]? = u.heap[q]?) : ai_scr b0 L xs ρ h U := by
  refine ⟨fun a ha => ?_, fun a ha => ?_, fun a ha => ?_⟩
  · obtain ⟨k1, k2⟩ := k.1 a ha
    exact ⟨(k1.kept (hh _ k2)).moved hvm, k2⟩
  · obtain ⟨k1, k2⟩ := k.2.1 a ha
    exact ⟨(k1.kept (fun q _ z => hh q (by omega))).moved hvm, (k2.kept (fun q _ z => hh q (by omega))).moved hvm⟩
  · exact (k.2.2 a ha).moved hvm
def ai_gc : MethodName := ⟨"java/lang/Object", "getClass", "()Ljava/lang/Class;"⟩
/-- what a row of kind 10 must keep -/
def ai_xok (Ts : List Cond) (own : String) (pc len : Nat) (ins : Instr) (ks : List Nat) : Prop := match ks.getD 0 0 with
  | 0 => len = 3 ∧ ∃ idx, ins = .getstatic idx ∧ Cond.fieldLink own idx "java/util/ArrayList" "DEFAULTCAPACITY_EMPTY_ELEMENTDATA" "[Ljava/lang/Object;" ∈ Ts
  | 1 => len = 2 ∧ ∃ idx, ins = .ldc idx ∧ Cond.classLink own idx "[Ljava/lang/Object;" ∈ Ts
  | 2 => len = 3 ∧ ∃ idx, ins = .invokevirtual idx ∧ Cond.methodLink own idx ai_gc ∈ Ts ∧ Cond.declares ai_gc ∈ Ts ∧ Cond.selects "[Ljava/lang/Object;" ai_gc ai_gc ∈ Ts ∧ Cond.instanceMethod ai_gc ∈ Ts ∧ Cond.native ai_gc ∈ Ts
  | 3 => len = 3 ∧ ∃ off, ins = .if_acmp .eq off ∧ (pc : Int) + off = (ks.getD 1 0 : Nat)
  | 4 => len = 3 ∧ ∃ off, ins = .if_acmp .ne off ∧ (pc : Int) + off = (ks.getD 1 0 : Nat)
  | 5 => len = 3 ∧ ∃ idx, ins = .invokestatic idx ∧ Cond.methodLink own idx arraycopyName ∈ Ts ∧ Cond.native arraycopyName ∈ Ts ∧ Cond.static arraycopyName ∈ Ts ∧ Cond.initialized "java/lang/System" ∈ Ts
  | 6 => len = 3 ∧ ∃ idx, ins = .invokestatic idx ∧ Cond.methodLink own idx arraycopyName ∈ Ts ∧ Cond.native arraycopyName ∈ Ts ∧ Cond.static arraycopyName ∈ Ts ∧ Cond.initialized "java/lang/System" ∈ Ts
  | _ => False
theorem ai_wt_eq {ρ : ai_A → Nat} : ∀ st : List ai_V, ((st.map (ai_v ρ)).map fun v => v.category).sum = ai_wt st
  | [] => rfl
  | v :: vs => by
    simp only [List.map_cons, List.sum_cons, ai_wt, ai_wt_eq vs]
    congr 1
    rcases v with x | x | _ | a <;> rfl
theorem ai_is2_eq {z : ai_C} (h : ai_is2 z = true) : z = .inr (.inr 2) := by
  unfold ai_is2 at h
  split at h
  · rfl
  · cases h
/-- two references that are told apart are apart -/
theorem ai_same_spec {D : va_G} {cl : List vw_C} {dA : Nat → ClassId} {b0 L : Nat} {xs : Nat → Int32} {ρ : ai_A → Nat} {h : ai_H} {H : Heap} {U : State} (hR : ai_R D cl dA (fun q => b0 ≤ q) ρ h H) (hsc : ai_scr b0 L xs ρ h U) {x y : Option ai_A} {q : Bool} (hs : ai_same h x y = some q) : (x.map ρ = y.map ρ) ↔ q = true := by
  obtain ⟨dom, h1, hP, hD, hc⟩ := hR
  have big : ∀ {a : ai_A} {z : ai_C}, h.1 a = some z → ai_solid z = true → b0 ≤ ρ a := by
    intro a z ha hz
    obtain ⟨k, -, hk⟩ := ai_R.idx (D := D) (cl := cl) (dA := dA) (ρ := ρ) h1 ha hz
    exact hD.2 k _ hk
  have low : ∀ {a : ai_A}, h.1 a = some (.inr (.inr 2)) → ¬ b0 ≤ ρ a := fun ha => (hsc.2.1 _ ha).2.out
  have inj : ∀ {a b : ai_A} {z w : ai_C}, h.1 a = some z → ai_solid z = true → h.1 b = some w → ai_solid w = true → ρ a = ρ b → a = b := by
    intro a b z w ha hz hb hw e
    obtain ⟨k, k0, hk⟩ := ai_R.idx (D := D) (cl := cl) (dA := dA) (ρ := ρ) h1 ha hz
    obtain ⟨j, j0, hj⟩ := ai_R.idx (D := D) (cl := cl) (dA := dA) (ρ := ρ) h1 hb hw
    have := hD.1 k j _ _ hk hj e
    subst this
    exact Option.some.inj (k0.symm.trans j0)
  unfold ai_same at hs
  split at hs
  · cases hs; simp
  · cases hs; simp
  · cases hs; simp
  · rename_i a b
    split at hs
    · rename_i hab
      cases hs
      subst hab
      simp
    · rename_i hab
      split at hs
      · rename_i z w ha hb
        split at hs
        · rename_i hzw
          cases hs
          simp only [Option.map_some, Option.some.injEq, Bool.false_eq_true, iff_false]
          intro e9
          rcases hzw with ⟨q1, q2⟩ | ⟨q1, q2⟩ | ⟨q1, q2⟩
          · exact hab (inj ha q1 hb q2 e9)
          · have q3 := low (ai_is2_eq q2 ▸ hb)
            have q4 := big ha q1
            omega
          · have q3 := low (ai_is2_eq q1 ▸ ha)
            have q4 := big hb q2
            omega
        · cases hs
      · cases hs
theorem ai_cpy_map {ρ : ai_A → Nat} (f g : Nat → Option ai_A) (sp dp n : Nat) : va_cpy (fun j => (f j).map ρ) (fun j => (g j).map ρ) sp dp n = fun j => (va_cpy f g sp dp n j).map ρ := by
  funext j
  simp only [va_cpy]
  split <;> rfl
theorem ai_cpy_cok {h : ai_H} {t0 n0 t n : Nat} {f g : Nat → Option ai_A} {sp dp k : Nat} (hf : ai_cok h (.inr (.inl (t0, n0, .inr (.inr f))))) (hg : ai_cok h (.inr (.inl (t, n, .inr (.inr g))))) : ai_cok h (.inr (.inl (t, n, .inr (.inr (va_cpy f g sp dp k))))) := by
  intro j a ha
  simp only [va_cpy] at ha
  split at ha
  · exact hf _ a ha
  · exact hg _ a ha
theorem ai_obj_ex {ty : FieldType} (h : ai_obj ty = true) : ∃ E, ty = .object E := by
  cases ty <;> first | exact ⟨_, rfl⟩ | (cases h; done)
section AIX
variable {p : Program} {l : Launch} {e : Env} {R : Room} {s : State} {m : MethodId} {args : Array Value} {below : List Frame} {meth : Method} {c : Code} {H : Heap} {locs : List Loc} {cells slots : Nat} {Q : State → Prop}
variable {cc : ByteArray} {pc pc' len : Nat} {lsA : Array Slot} {ρ : ai_A → Nat} {D : va_G} {cl : List vw_C} {dA : Nat → ClassId} {b0 L : Nat} {xs : Nat → Int32} {h h' : ai_H} {Ts : List Cond} {tyL : List FieldType} {tyF : Nat → Nat → FieldType} {asg : Nat → Nat → Bool} {own : String} {ks : List Nat}
set_option maxHeartbeats 4000000 in
theorem ai_ext_W (hx : p.tables.exec = Jvm.exec) (hb : c.code = cc) (hml : c.maxLocals = lsA.size) (hts : ∀ w ∈ Ts, w.before args s = true) (hown : s.vm.findClass own = some m.cls) (hcl : ai_clok Ts cl tyF) (hasg : ai_aok Ts cl tyL asg) (hK : va_K D cl (ai_tys dA tyL) s) (hR : ai_R D cl dA (fun q => b0 ≤ q) ρ h H) (hS : va_S (fun q => b0 ≤ q) s.heap H locs) (hsc : ai_scr b0 L xs ρ h s)
    {ins : Instr} {st st' : List ai_V} (hst : ∀ v ∈ st, ai_ok h v) (hp : ai_ext (fun t => tyL.getD t .float) asg pc ks st h = some (pc', st', h')) (hok : ai_xok Ts own pc len ins ks) (hd : decode cc pc = .ok (ins, len)) (hf : 1 ≤ R.frames) (hl : 200 ≤ R.locals)
    (k : ∀ (H' : Heap) (locs' : List Loc), ai_ex h ρ h' ρ → ai_R D cl dA (fun q => b0 ≤ q) ρ h' H' → va_S (fun q => b0 ≤ q) s.heap H' locs' → (∀ v ∈ st', ai_ok h' v) → h'.2 = h.2 → W p l e R s m args below meth c H' locs' cells slots Q (F0 m pc' lsA (st'.map (ai_v ρ)))) :
    W p l e R s m args below meth c H locs cells slots Q (F0 m pc lsA (st.map (ai_v ρ))) := by
  have hR0 := hR
  obtain ⟨dom, h1, hP, hD, hc⟩ := hR
  have hnf : nativeFrameWords "java/lang/System" "arraycopy" 5 + 11 ≤ 100 := by decide
  have op : ∀ {a : ai_A} {x : ai_C}, ai_solid x = true → ∀ b k, (ai_put h a x).1 b = some (.inr (.inr k)) → h.1 b = some (.inr (.inr k)) := by
    intro a x hxs b k hb
    by_cases z : b = a
    · subst z
      have : x = .inr (.inr k) := by simpa [ai_put, ai_upd] using hb
      rw [this] at hxs
      cases hxs
    · simpa [ai_put, ai_upd, z] using hb
  unfold ai_ext at hp
  unfold ai_xok at hok
  split at hp
  · rename_i hk0
    rw [hk0] at hok
    obtain ⟨rfl, idx, rfl, g1⟩ := hok
    split at hp
    · rename_i ha
      cases hp
      exact va_gets hx hb (hsc.2.1 _ ha).1 hS hown (hts _ g1) (fun _ z => z) hd (k H locs ai_ex.refl hR0 hS (ai_oks (ai_ok_ref (by rw [ha]; rfl)) hst) rfl)
    · cases hp
  · rename_i hk0
    rw [hk0] at hok
    obtain ⟨rfl, idx, rfl, g1⟩ := hok
    split at hp
    · rename_i ha
      cases hp
      exact va_ldcM hx hb hown (hts _ g1) (hsc.2.2 _ ha) hd (k H locs ai_ex.refl hR0 hS (ai_oks (ai_ok_ref (by rw [ha]; rfl)) hst) rfl)
    · cases hp
  · rename_i hk0
    rw [hk0] at hok
    obtain ⟨rfl, idx, rfl, g1, g2, g3, g4, g5⟩ := hok
    split at hp
    · split at hp
      · rename_i a r _ _ t n f ha hb2
        split at hp
        · rename_i hc2
          cases hp
          obtain ⟨j, -, hj⟩ := ai_R.idx (D := D) (cl := cl) (dA := dA) (ρ := ρ) h1 ha rfl
          have hcell : H[ρ a]? = some (vp_cell (dA t) (n, .inr (.inr (.inr (.inr fun j => (f j).map ρ))))) := hP j _ hj
          have hra := (hK.2 t _ (ai_tys_at (dA := dA) hc2.1 (by simp))).2
          exact va_getC hx hb hml hown (hts _ g1) (hts _ g2) (hts _ g3) (hts _ g4) (hts _ g5) (hsc.2.2 _ hb2) ⟨_, hcell, rfl, va_nmO hra rfl⟩ hf (by rw [ai_wt_eq]; omega) hd (k H locs ai_ex.refl hR0 hS (ai_oks (ai_ok_ref (by rw [hb2]; rfl)) (ai_okt hst)) rfl)
        · cases hp
      · cases hp
    · cases hp
  · rename_i hk0
    rw [hk0] at hok
    obtain ⟨rfl, off, rfl, g1⟩ := hok
    split at hp
    · rename_i y x r
      split at hp
      · rename_i q hq
        cases hp
        have hsp := ai_same_spec hR0 hsc hq
        have kk := k H locs ai_ex.refl hR0 hS (ai_okt (ai_okt hst)) rfl
        rw [List.map_cons, List.map_cons, ← ai_rf, ← ai_rf]
        refine lv_acmp_eq hx hb hd g1 (fun z => ?_) (fun z => ?_)
        · rw [if_pos (hsp.mp z)] at kk
          exact kk
        · rw [if_neg (fun w => z (hsp.mpr w))] at kk
          exact kk
      · cases hp
    · cases hp
  · rename_i hk0
    rw [hk0] at hok
    obtain ⟨rfl, off, rfl, g1⟩ := hok
    split at hp
    · rename_i y x r
      split at hp
      · rename_i q hq
        cases hp
        have hsp := ai_same_spec hR0 hsc hq
        have kk := k H locs ai_ex.refl hR0 hS (ai_okt (ai_okt hst)) rfl
        rw [List.map_cons, List.map_cons, ← ai_rf, ← ai_rf]
        refine lv_acmp_ne hx hb hd g1 (fun z => ?_) (fun z => ?_)
        · rw [if_neg (fun w => z (hsp.mpr w))] at kk
          exact kk
        · rw [if_pos (hsp.mp z)] at kk
          exact kk
      · cases hp
    · cases hp
  · rename_i hk0
    rw [hk0] at hok
    obtain ⟨rfl, idx, rfl, g1, g2, g3, g4⟩ := hok
    split at hp
    · rename_i n dp b sp a r
      split at hp
      · rename_i t0 n0 f t1 n1 g ha hb2
        split at hp
        · rename_i hc2
          obtain ⟨c1, c2, c3, c4, c5, c6, c7, c8⟩ := hc2
          cases hp
          obtain ⟨j0, -, hj0⟩ := ai_R.idx (D := D) (cl := cl) (dA := dA) (ρ := ρ) h1 ha rfl
          obtain ⟨j1, hj10, hj1⟩ := ai_R.idx (D := D) (cl := cl) (dA := dA) (ρ := ρ) h1 hb2 rfl
          refine va_copyi hx hb hml hown (hts _ g1) (hts _ g2) (hts _ g3) (hts _ g4) hK hP hD hS j0 j1 t0 t1 hj0 hj1 (ai_tys_at c1 (by decide)) (ai_tys_at c2 (by decide)) (by decide) c3 c4 c5 c6 c7 (fun _ _ => rfl) hf (by rw [ai_wt_eq]; omega) hd (ai_st_fin (t' := t1) (n' := n1) (d' := .inl (va_cpy f g sp.toNatClampNeg dp.toNatClampNeg n.toNatClampNeg)) h1 hc hD hj10 hb2 trivial (fun H1 locs1 q1 q2 => ?_) rfl)
          exact k H1 locs1 ⟨ai_le_refl, fun b z => ai_put_some z, fun b k _ => op rfl b k⟩ q1 q2 (ai_oksP (ai_okt (ai_okt (ai_okt (ai_okt (ai_okt hst)))))) rfl
        · cases hp
      · cases hp
    · cases hp
  · rename_i hk0
    rw [hk0] at hok
    obtain ⟨rfl, idx, rfl, g1, g2, g3, g4⟩ := hok
    split at hp
    · rename_i n dp b sp a r
      split at hp
      · rename_i t0 n0 f t1 n1 g ha hb2
        split at hp
        · rename_i hc2
          obtain ⟨c1, c3, c4, c5, c6, c7, c8, cj, c9, c10⟩ := hc2
          cases hp
          obtain ⟨E0, hE0⟩ := ai_obj_ex c1
          obtain ⟨E1, r1, hE1, hr1, hca⟩ := hasg t1 cj c9
          obtain ⟨j0, -, hj0⟩ := ai_R.idx (D := D) (cl := cl) (dA := dA) (ρ := ρ) h1 ha rfl
          obtain ⟨j1, hj10, hj1⟩ := ai_R.idx (D := D) (cl := cl) (dA := dA) (ρ := ρ) h1 hb2 rfl
          refine va_copyq (C := r1.1) hx hb hml hown (hts _ g1) (hts _ g2) (hts _ g3) (hts _ g4) hK hP hD hS j0 j1 t0 t1 hj0 hj1 (ai_tys_at hE0 (by simp)) (ai_tys_at hE1 (by simp)) c3 c4 c5 c6 c7 (fun i hi y hy => ?_) (fun comp c0 z1 z2 => ?_) hf (by rw [ai_wt_eq]; omega) hd (ai_st_fin (t' := t1) (n' := n1) (d' := .inr (.inr (va_cpy f g sp.toNatClampNeg dp.toNatClampNeg n.toNatClampNeg))) h1 hc hD hj10 hb2 (ai_cpy_cok (hc _ _ ha) (hc _ _ hb2)) (fun H1 locs1 q1 q2 => ?_) ?_)
          · obtain ⟨b', hb', rfl⟩ := Option.map_eq_some_iff.mp hy
            obtain ⟨fs, hfs⟩ := c10 i hi b' hb'
            obtain ⟨j3, -, hj3⟩ := ai_R.idx (D := D) (cl := cl) (dA := dA) (ρ := ρ) h1 hfs rfl
            exact va_recv hK hP hr1 hj3
          · rcases hca with hca | hca
            · rw [hca] at z2
              cases z1.symm.trans z2
              have hcA := (hK.1 cj r1 hr1).2
              rw [hca] at hcA
              cases z1.symm.trans hcA.1
              exact va_assign hcA
            · obtain ⟨c3', c4', y1, y2, y3⟩ := Cond.castable_spec (hts _ hca)
              cases y1.symm.trans z2
              cases y2.symm.trans z1
              exact y3
          · exact k H1 locs1 ⟨ai_le_refl, fun b z => ai_put_some z, fun b k _ => op rfl b k⟩ q1 q2 (ai_oksP (ai_okt (ai_okt (ai_okt (ai_okt (ai_okt hst)))))) rfl
          · exact congrArg (fun g => (Sum.inl (dA t1, n1, Sum.inr (Sum.inr (Sum.inr (Sum.inr g)))) : va_E)) (ai_cpy_map f g sp.toNatClampNeg dp.toNatClampNeg n.toNatClampNeg)
        · cases hp
      · cases hp
    · cases hp
  · cases hp
end AIX
