theorem ai_RA_inj {U : State} {c1 c2 : ClassId} {ty : FieldType} (h1 : va_RA U c1 ty) (h2 : va_RA U c2 ty) : c1 = c2 := by
  cases ty with
  | object C =>
    obtain ⟨_, _, -, -, -, g1⟩ := h1
    obtain ⟨_, _, -, -, -, g2⟩ := h2
    exact Option.some.inj (g1.symm.trans g2)
  | _ => exact Option.some.inj (h1.symm.trans h2)
theorem ai_ok_int {h : ai_H} {x : Int32} : ai_ok h (.inl x) := fun _ z => by cases z
theorem ai_ok_long {h : ai_H} {x : Int64} : ai_ok h (.inr (.inl x)) := fun _ z => by cases z
theorem ai_ok_null {h : ai_H} : ai_ok h (.inr (.inr none)) := fun _ z => by cases z
theorem ai_ok_ref {h : ai_H} {a : ai_A} (q : (h.1 a).isSome = true) : ai_ok h (.inr (.inr (some a))) := fun _ z => by cases z; exact q
theorem ai_oks {h : ai_H} {v : ai_V} {st : List ai_V} (hv : ai_ok h v) (hs : ∀ w ∈ st, ai_ok h w) : ∀ w ∈ v :: st, ai_ok h w := fun w hw => by
  rcases List.mem_cons.mp hw with rfl | hw
  · exact hv
  · exact hs w hw
theorem ai_okt {h : ai_H} {v : ai_V} {st : List ai_V} (hs : ∀ w ∈ v :: st, ai_ok h w) : ∀ w ∈ st, ai_ok h w := fun w hw => hs w (List.mem_cons_of_mem _ hw)
theorem ai_oksP {h : ai_H} {a : ai_A} {x : ai_C} {st : List ai_V} (hs : ∀ w ∈ st, ai_ok h w) : ∀ w ∈ st, ai_ok (ai_put h a x) w := fun w hw => ai_put_ok (hs w hw)
theorem ai_oksN {h : ai_H} {s n : Nat} {x : ai_C} {st : List ai_V} (hs : ∀ w ∈ st, ai_ok h w) : ∀ w ∈ st, ai_ok (ai_new h s x n) w := fun w hw a ha => ai_new_some (hs w hw a ha)
theorem ai_le_refl {h : ai_H} {ρ : ai_A → Nat} : ai_le h ρ ρ := fun _ _ => rfl
theorem ai_rf {ρ : ai_A → Nat} (r : Option ai_A) : va_rf (r.map ρ) = ai_v ρ (.inr (.inr r)) := by cases r <;> rfl
theorem ai_up_map {ρ : ai_A → Nat} (f : Nat → Option ai_A) (i : Nat) (r : Option ai_A) : va_up (fun j => (f j).map ρ) i (r.map ρ) = fun j => (va_up f i r j).map ρ := by
  funext j
  by_cases hj : j = i
  · subst hj
    simp [va_up]
  · simp [va_up, hj]
theorem ai_up_cok {h : ai_H} {t n : Nat} {f : Nat → Option ai_A} {i : Nat} {r : Option ai_A} (hf : ai_cok h (.inr (.inl (t, n, .inr (.inr f))))) (hr : ∀ a, r = some a → (h.1 a).isSome = true) : ai_cok h (.inr (.inl (t, n, .inr (.inr (va_up f i r))))) := by
  intro j a ha
  by_cases hj : j = i
  · subst hj
    have : r = some a := by simpa [va_up] using ha
    exact hr a this
  · have : f j = some a := by simpa [va_up, hj] using ha
    exact hf j a this
theorem ai_vpV {ρ : ai_A → Nat} (l : List ai_V) (j : Nat) : vp_V (l.map (ai_v ρ)) j = ai_v ρ (l.getD j (.inr (.inr none))) := by
  simp only [vp_V, List.getD_eq_getElem?_getD, List.getElem?_map]
  cases l[j]? <;> rfl
section AI3
variable {p : Program} {l : Launch} {e : Env} {R : Room} {s : State} {m : MethodId} {args : Array Value} {below : List Frame} {meth : Method} {c : Code} {H : Heap} {locs : List Loc} {cells slots : Nat} {Q : State → Prop}
variable {cc : ByteArray} {pc : Nat} {lsA : Array Slot} {ρ : ai_A → Nat} {D : va_G} {cl : List vw_C} {dA : Nat → ClassId} {B : Nat → Prop} {h h' : ai_H} {Ts : List Cond} {tyL : List FieldType} {tyF : Nat → Nat → FieldType} {dfl : Nat → List ai_V} {asg : Nat → Nat → Bool} {own : String} {ks : List Nat}
set_option maxHeartbeats 8000000 in
theorem ai_heap_W (hx : p.tables.exec = Jvm.exec) (hb : c.code = cc) (hts : ∀ w ∈ Ts, w.before args s = true) (hown : s.vm.findClass own = some m.cls) (hcl : ai_clok Ts cl tyF) (hasg : ai_aok Ts cl tyL asg) (hK : va_K D cl (ai_tys dA tyL) s) (hR : ai_R D cl dA B ρ h H) (hS : va_S B s.heap H locs) (hB : ∀ q, s.heap.size ≤ q → B q)
    {L : Nat} {xs : Nat → Int32} (hsc : ∀ a, h.1 a = some (.inr (.inr 0)) → va_X (ρ a) L xs s s.heap ∧ ρ a < s.heap.size ∧ ¬ B (ρ a)) (hsd : ∀ a, h.1 a = some (.inr (.inr 2)) → va_T (.object "java/lang/Object") (ρ a) 0 (fun _ => .null) B s s.heap)
    {ins : Instr} {st st' : List ai_V} (hst : ∀ v ∈ st, ai_ok h v) (hp : ai_heap dfl (fun t => tyL.getD t .float) tyF asg L xs ins ks st h = some (st', h')) (hok : ai_hok Ts cl tyL tyF dfl own meth.name ins ks) (hd : decode cc pc = .ok (ins, ai_len ins))
    (hrc : cells + h'.2.2.1 ≤ R.cells + h.2.2.1) (hrs : slots + h'.2.2.2 ≤ R.slots + h.2.2.2)
    (k : ∀ (ρ' : ai_A → Nat) (H' : Heap) (locs' : List Loc) (cells' slots' : Nat), ai_le h ρ ρ' → ai_R D cl dA B ρ' h' H' → va_S B s.heap H' locs' → (∀ v ∈ st', ai_ok h' v) → (∀ b, (h.1 b).isSome = true → (h'.1 b).isSome = true) → (∀ b k, h'.1 b = some (.inr (.inr k)) → h.1 b = some (.inr (.inr k))) → cells' + h.2.2.1 = cells + h'.2.2.1 → slots' + h.2.2.2 = slots + h'.2.2.2 →
      W p l e R s m args below meth c H' locs' cells' slots' Q (F0 m (pc + ai_len ins) lsA (st'.map (ai_v ρ')))) : W p l e R s m args below meth c H locs cells slots Q (F0 m pc lsA (st.map (ai_v ρ))) := by
  have hR0 := hR
  obtain ⟨dom, h1, hP, hD, hc⟩ := hR
  have op : ∀ {a : ai_A} {x y : ai_C}, h.1 a = some y → ai_solid x = true → ∀ b k, (ai_put h a x).1 b = some (.inr (.inr k)) → h.1 b = some (.inr (.inr k)) := by
    intro a x y _ hxs b k hb
    by_cases z : b = a
    · subst z
      have : x = .inr (.inr k) := by simpa [ai_put, ai_upd] using hb
      rw [this] at hxs
      cases hxs
    · simpa [ai_put, ai_upd, z] using hb
  have on : ∀ {s' n : Nat} {x : ai_C}, ai_solid x = true → ∀ b k, (ai_new h s' x n).1 b = some (.inr (.inr k)) → h.1 b = some (.inr (.inr k)) := by
    intro s' n x hxs b k hb
    by_cases z : b = (s', h.2.1 s')
    · subst z
      have : x = .inr (.inr k) := by simpa [ai_new, ai_upd] using hb
      rw [this] at hxs
      cases hxs
    · simpa [ai_new, ai_upd, z] using hb
  cases ins
  case ldc idx =>
    cases hp
    exact lv_ldc hx hb hown (hts _ hok) hd (k ρ H locs cells slots ai_le_refl hR0 hS (ai_oks ai_ok_int hst) (fun _ z => z) (fun _ _ z => z) rfl rfl)
  case ldc_w idx =>
    cases hp
    exact lv_ldcw hx hb hown (hts _ hok) hd (k ρ H locs cells slots ai_le_refl hR0 hS (ai_oks ai_ok_int hst) (fun _ z => z) (fun _ _ z => z) rfl rfl)
  case ldc2_w idx =>
    cases hp
    exact lv_ldc2 hx hb hown (hts _ hok) hd (k ρ H locs cells slots ai_le_refl hR0 hS (ai_oks ai_ok_long hst) (fun _ z => z) (fun _ _ z => z) rfl rfl)
  case getfield idx =>
    simp only [ai_heap] at hp
    split at hp
    · split at hp
      · rename_i a r _ cj fs ha
        split at hp
        · rename_i hcj
          obtain ⟨v, hv, hz⟩ := Option.map_eq_some_iff.mp hp
          cases hz
          subst hcj
          exact ai_get_W hx hb hts hown hcl hK hR0 ha hv hok hd (k ρ H locs cells slots ai_le_refl hR0 hS (ai_oks (hc _ _ ha v (List.mem_of_getElem? hv)) (ai_okt hst)) (fun _ z => z) (fun _ _ z => z) rfl rfl)
        · cases hp
      · cases hp
    · cases hp
  case putfield idx =>
    simp only [ai_heap] at hp
    split at hp
    · split at hp
      · rename_i v a r _ cj fs ha
        split at hp
        · rename_i hcj
          obtain ⟨q1, q2, q3⟩ := hcj
          cases hp
          subst q1
          exact ai_put_W hx hb hts hown hcl hK hR0 hS ha q2 q3 (hst v List.mem_cons_self) hok hd (fun H1 locs1 g1 g2 => k ρ H1 locs1 cells slots ai_le_refl g1 g2 (ai_oksP (ai_okt (ai_okt hst))) (fun b z => ai_put_some z) (op ha rfl) rfl rfl)
        · cases hp
      · cases hp
    · cases hp
  case iaload =>
    simp only [ai_heap] at hp
    split at hp
    · split at hp
      · rename_i i a r _ t n f ha
        split at hp
        · rename_i hc2
          cases hp
          obtain ⟨j, -, hj⟩ := ai_R.idx (D := D) (cl := cl) (dA := dA) (ρ := ρ) h1 ha rfl
          exact va_iald hx hb hK hP j t hj (ai_tys_at hc2.1 (by decide)) hc2.2 hd (k ρ H locs cells slots ai_le_refl hR0 hS (ai_oks ai_ok_int (ai_okt (ai_okt hst))) (fun _ z => z) (fun _ _ z => z) rfl rfl)
        · cases hp
      · rename_i i a r _ ha
        split at hp
        · rename_i hc2
          cases hp
          obtain ⟨s1, s2, s3⟩ := hsc a ha
          exact va_sld hx hb s1 s2 s3 hS hc2 hd (k ρ H locs cells slots ai_le_refl hR0 hS (ai_oks ai_ok_int (ai_okt (ai_okt hst))) (fun _ z => z) (fun _ _ z => z) rfl rfl)
        · cases hp
      · cases hp
    · cases hp
  case caload =>
    simp only [ai_heap] at hp
    split at hp
    · split at hp
      · rename_i i a r _ t n f ha
        split at hp
        · rename_i hc2
          cases hp
          obtain ⟨j, -, hj⟩ := ai_R.idx (D := D) (cl := cl) (dA := dA) (ρ := ρ) h1 ha rfl
          exact va_cald hx hb hK hP j t hj (ai_tys_at hc2.1 (by decide)) hc2.2 hd (k ρ H locs cells slots ai_le_refl hR0 hS (ai_oks ai_ok_int (ai_okt (ai_okt hst))) (fun _ z => z) (fun _ _ z => z) rfl rfl)
        · cases hp
      · cases hp
    · cases hp
  case baload =>
    simp only [ai_heap] at hp
    split at hp
    · split at hp
      · rename_i i a r _ t n f ha
        split at hp
        · rename_i hc2
          cases hp
          obtain ⟨j, -, hj⟩ := ai_R.idx (D := D) (cl := cl) (dA := dA) (ρ := ρ) h1 ha rfl
          exact va_zald hx hb hK hP j t hj (ai_tys_at hc2.1 (by decide)) hc2.2 hd (k ρ H locs cells slots ai_le_refl hR0 hS (ai_oks ai_ok_int (ai_okt (ai_okt hst))) (fun _ z => z) (fun _ _ z => z) rfl rfl)
        · cases hp
      · cases hp
    · cases hp
  case laload =>
    simp only [ai_heap] at hp
    split at hp
    · split at hp
      · rename_i i a r _ t n f ha
        split at hp
        · rename_i hc2
          cases hp
          obtain ⟨j, -, hj⟩ := ai_R.idx (D := D) (cl := cl) (dA := dA) (ρ := ρ) h1 ha rfl
          exact va_lald hx hb hK hP j t hj (ai_tys_at hc2.1 (by decide)) hc2.2 hd (k ρ H locs cells slots ai_le_refl hR0 hS (ai_oks ai_ok_long (ai_okt (ai_okt hst))) (fun _ z => z) (fun _ _ z => z) rfl rfl)
        · cases hp
      · cases hp
    · cases hp
  case aaload =>
    simp only [ai_heap] at hp
    split at hp
    · split at hp
      · rename_i i a r _ t n f ha
        split at hp
        · rename_i hc2
          cases hp
          obtain ⟨j, -, hj⟩ := ai_R.idx (D := D) (cl := cl) (dA := dA) (ρ := ρ) h1 ha rfl
          obtain ⟨E, hE⟩ : ∃ E, tyL.getD t .float = .object E := by
            have := hc2.1
            cases hq : tyL.getD t .float <;> rw [hq] at this <;> first | (cases this; done) | exact ⟨_, rfl⟩
          refine va_aldq hx hb hK hP j t hj (ai_tys_at hE (by simp)) hc2.2 hd ?_
          rw [ai_rf]
          refine k ρ H locs cells slots ai_le_refl hR0 hS (ai_oks ?_ (ai_okt (ai_okt hst))) (fun _ z => z) (fun _ _ z => z) rfl rfl
          intro b hb2
          exact hc _ _ ha i.toNatClampNeg b (by simpa using hb2)
        · cases hp
      · cases hp
    · cases hp
  case iastore =>
    simp only [ai_heap] at hp
    split at hp
    · split at hp
      · rename_i x i a r _ t n f ha
        split at hp
        · rename_i hc2
          cases hp
          obtain ⟨j, hj0, hj⟩ := ai_R.idx (D := D) (cl := cl) (dA := dA) (ρ := ρ) h1 ha rfl
          refine va_iast hx hb hK hP hD hS j t hj (ai_tys_at hc2.1 (by decide)) hc2.2 hd (ai_st_fin (t' := t) (n' := n) (d' := .inl (upd f i.toNatClampNeg x)) h1 hc hD hj0 ha trivial (fun H1 locs1 g1 g2 => ?_) rfl)
          exact k ρ H1 locs1 cells slots ai_le_refl g1 g2 (ai_oksP (ai_okt (ai_okt (ai_okt hst)))) (fun b z => ai_put_some z) (op ha rfl) rfl rfl
        · cases hp
      · cases hp
    · cases hp
  case castore =>
    simp only [ai_heap] at hp
    split at hp
    · split at hp
      · rename_i x i a r _ t n f ha
        split at hp
        · rename_i hc2
          cases hp
          obtain ⟨j, hj0, hj⟩ := ai_R.idx (D := D) (cl := cl) (dA := dA) (ρ := ρ) h1 ha rfl
          refine va_cast hx hb hK hP hD hS j t hj (ai_tys_at hc2.1 (by decide)) hc2.2 hd (ai_st_fin (t' := t) (n' := n) (d' := .inl (upd f i.toNatClampNeg (vp_nar .char x))) h1 hc hD hj0 ha trivial (fun H1 locs1 g1 g2 => ?_) rfl)
          exact k ρ H1 locs1 cells slots ai_le_refl g1 g2 (ai_oksP (ai_okt (ai_okt (ai_okt hst)))) (fun b z => ai_put_some z) (op ha rfl) rfl rfl
        · cases hp
      · cases hp
    · cases hp
  case bastore =>
    simp only [ai_heap] at hp
    split at hp
    · split at hp
      · rename_i x i a r _ t n f ha
        split at hp
        · rename_i hc2
          cases hp
          obtain ⟨j, hj0, hj⟩ := ai_R.idx (D := D) (cl := cl) (dA := dA) (ρ := ρ) h1 ha rfl
          refine va_zast hx hb hK hP hD hS j t hj (ai_tys_at hc2.1 (by decide)) hc2.2 hd (ai_st_fin (t' := t) (n' := n) (d' := .inl (upd f i.toNatClampNeg (vp_nar .boolean x))) h1 hc hD hj0 ha trivial (fun H1 locs1 g1 g2 => ?_) rfl)
          exact k ρ H1 locs1 cells slots ai_le_refl g1 g2 (ai_oksP (ai_okt (ai_okt (ai_okt hst)))) (fun b z => ai_put_some z) (op ha rfl) rfl rfl
        · cases hp
      · cases hp
    · cases hp
  case lastore =>
    simp only [ai_heap] at hp
    split at hp
    · split at hp
      · rename_i x i a r _ t n f ha
        split at hp
        · rename_i hc2
          cases hp
          obtain ⟨j, hj0, hj⟩ := ai_R.idx (D := D) (cl := cl) (dA := dA) (ρ := ρ) h1 ha rfl
          refine va_last hx hb hK hP hD hS j t hj (ai_tys_at hc2.1 (by decide)) hc2.2 hd (ai_st_fin (t' := t) (n' := n) (d' := .inr (.inl (vp_updL f i.toNatClampNeg x))) h1 hc hD hj0 ha trivial (fun H1 locs1 g1 g2 => ?_) rfl)
          exact k ρ H1 locs1 cells slots ai_le_refl g1 g2 (ai_oksP (ai_okt (ai_okt (ai_okt hst)))) (fun b z => ai_put_some z) (op ha rfl) rfl rfl
        · cases hp
      · cases hp
    · cases hp
  case aastore =>
    simp only [ai_heap] at hp
    split at hp
    · split at hp
      · rename_i i a r _ t n f ha
        split at hp
        · rename_i hc2
          cases hp
          obtain ⟨j, hj0, hj⟩ := ai_R.idx (D := D) (cl := cl) (dA := dA) (ρ := ρ) h1 ha rfl
          obtain ⟨E, hE⟩ : ∃ E, tyL.getD t .float = .object E := by
            have := hc2.1
            cases hq : tyL.getD t .float <;> rw [hq] at this <;> first | (cases this; done) | exact ⟨_, rfl⟩
          refine va_astqN hx hb hK hP hD hS j t hj (ai_tys_at hE (by simp)) hc2.2 hd (ai_st_fin (t' := t) (n' := n) (d' := .inr (.inr (va_up f i.toNatClampNeg none))) h1 hc hD hj0 ha (ai_up_cok (hc _ _ ha) (fun _ z => by cases z)) (fun H1 locs1 g1 g2 => ?_) ?_)
          · exact k ρ H1 locs1 cells slots ai_le_refl g1 g2 (ai_oksP (ai_okt (ai_okt (ai_okt hst)))) (fun b z => ai_put_some z) (op ha rfl) rfl rfl
          · exact congrArg (fun g => (Sum.inl (dA t, n, Sum.inr (Sum.inr (Sum.inr (Sum.inr g)))) : va_E)) (ai_up_map f i.toNatClampNeg none)
        · cases hp
      · cases hp
    · split at hp
      · rename_i b i a r _ _ t n f cj fs ha hbb
        split at hp
        · rename_i hc2
          cases hp
          obtain ⟨j, hj0, hj⟩ := ai_R.idx (D := D) (cl := cl) (dA := dA) (ρ := ρ) h1 ha rfl
          obtain ⟨j2, -, hj2⟩ := ai_R.idx (D := D) (cl := cl) (dA := dA) (ρ := ρ) h1 hbb rfl
          obtain ⟨E, r0, hE, hr0, hca⟩ := hasg t cj hc2.1
          have fin : ∀ (H1 : Heap) (locs1 : List Loc), va_P D cl ((ai_ws dA ρ h dom).set j (ρ a, .inl (dA t, n, .inr (.inr (.inr (.inr (va_up (fun j => (f j).map ρ) i.toNatClampNeg (some (ρ b))))))))) H1 → va_D B ((ai_ws dA ρ h dom).set j (ρ a, .inl (dA t, n, .inr (.inr (.inr (.inr (va_up (fun j => (f j).map ρ) i.toNatClampNeg (some (ρ b))))))))) → va_S B s.heap H1 locs1 → W p l e R s m args below meth c H1 locs1 cells slots Q (F0 m (pc + 1) lsA (st'.map (ai_v ρ))) := by
            refine ai_st_fin (t' := t) (n' := n) (d' := .inr (.inr (va_up f i.toNatClampNeg (some b)))) h1 hc hD hj0 ha (ai_up_cok (hc _ _ ha) (fun a' z => by cases z; rw [hbb]; rfl)) (fun H1 locs1 g1 g2 => ?_) ?_
            · exact k ρ H1 locs1 cells slots ai_le_refl g1 g2 (ai_oksP (ai_okt (ai_okt (ai_okt hst)))) (fun b z => ai_put_some z) (op ha rfl) rfl rfl
            · exact congrArg (fun g => (Sum.inl (dA t, n, Sum.inr (Sum.inr (Sum.inr (Sum.inr g)))) : va_E)) (ai_up_map f i.toNatClampNeg (some b))
          rcases hca with hca | hca
          · subst hca
            exact va_astq hx hb hK hP hD hS j t j2 cj hj (ai_tys_at hE (by simp)) hj2 hr0 hc2.2 hd fin
          · exact va_astqO hx hb hK hP hD hS j t j2 cj hj (ai_tys_at hE (by simp)) (va_Nw.of rfl (hts _ hca)) hj2 hr0 hc2.2 hd fin
        · cases hp
      · cases hp
    · cases hp
  case arraylength =>
    simp only [ai_heap] at hp
    split at hp
    · split at hp
      · rename_i a r _ t n d ha
        split at hp
        · cases hp
        · rename_i hc2
          cases hp
          obtain ⟨j, -, hj⟩ := ai_R.idx (D := D) (cl := cl) (dA := dA) (ρ := ρ) h1 ha rfl
          have kk := k ρ H locs cells slots ai_le_refl hR0 hS (ai_oks ai_ok_int (ai_okt hst)) (fun _ z => z) (fun _ _ z => z) rfl rfl
          rcases d with f | f | f
          · exact va_alen hx hb hK hP j t hj (ai_tys_at rfl hc2) rfl hd kk
          · exact va_alen hx hb hK hP j t hj (ai_tys_at rfl hc2) rfl hd kk
          · exact va_alen hx hb hK hP j t hj (ai_tys_at rfl hc2) rfl hd kk
      · rename_i a r _ ha
        cases hp
        obtain ⟨s1, s2, s3⟩ := hsc a ha
        exact va_slen hx hb s1 s2 s3 hS hd (k ρ H locs cells slots ai_le_refl hR0 hS (ai_oks ai_ok_int (ai_okt hst)) (fun _ z => z) (fun _ _ z => z) rfl rfl)
      · rename_i a r _ ha
        cases hp
        exact va_tlen hx hb (hsd a ha) hS (by decide) hd (k ρ H locs cells slots ai_le_refl hR0 hS (ai_oks ai_ok_int (ai_okt hst)) (fun _ z => z) (fun _ _ z => z) rfl rfl)
      · cases hp
    · cases hp
  case new idx =>
    simp only [ai_heap] at hp
    split at hp
    · rename_i hn
      cases hp
      have hn : h.1 (ks.getD 1 0, h.2.1 (ks.getD 1 0)) = none := by simpa using hn
      obtain ⟨C, T, N, g1, g2, g3, g4, g5, g6⟩ := hok
      obtain ⟨w1, w2, w3⟩ := hcl _ _ _ _ g1
      have hcn : ai_cok h (.inl (ks.getD 0 0, dfl (ks.getD 0 0))) := by
        intro v hv a ha
        obtain ⟨j, hj⟩ := List.getElem?_of_mem hv
        have hjl : j < N := by rw [← g5]; exact (List.getElem?_eq_some_iff.mp hj).1
        exact absurd (by rw [List.getD_eq_getElem?_getD, hj]; exact ha) ((g6 j hjl).2 a)
      have hrc' : cells + 1 ≤ R.cells := by
        have : cells + (h.2.2.1 + 1) ≤ R.cells + h.2.2.1 := hrc
        omega
      have hrs' : slots + N ≤ R.slots := by
        have : slots + (h.2.2.2 + (dfl (ks.getD 0 0)).length) ≤ R.slots + h.2.2.2 := hrs
        omega
      refine va_new hx hb hts w1 (tyF (ks.getD 0 0)) w2 hown (hts _ g2) (hts _ g3) (hts _ g4) hK hP hD hS hB g1 (fs := (dfl (ks.getD 0 0)).map (ai_v ρ)) (fun j hj => ?_) hrc' hrs' hd (fun q H1 q1 q2 q3 => ?_)
      · obtain ⟨e1, e2⟩ := g6 j hj
        rw [← e1]
        rw [ai_vpV]
        generalize (dfl (ks.getD 0 0)).getD j (.inr (.inr none)) = v at e2
        rcases v with x | x | _ | a
        · rfl
        · rfl
        · rfl
        · exact absurd rfl (e2 a)
      · have hle : ai_le h ρ (ai_at ρ (ks.getD 1 0, h.2.1 (ks.getD 1 0)) q) := ai_at_le hn
        have hq : ai_v (ai_at ρ (ks.getD 1 0, h.2.1 (ks.getD 1 0)) q) (.inr (.inr (some (ks.getD 1 0, h.2.1 (ks.getD 1 0))))) = .ref q := by simp [ai_v, ai_at]
        have := k (ai_at ρ (ks.getD 1 0, h.2.1 (ks.getD 1 0)) q) H1 locs (cells + 1) (slots + N) hle (ai_R.new h1 hc hn rfl hcn q1 q2) q3 (ai_oks (ai_ok_ref (by simp [ai_new, ai_upd])) (ai_oksN hst)) (fun b z => ai_new_some z) (on rfl) (by show cells + 1 + h.2.2.1 = cells + (h.2.2.1 + 1); omega) (by show slots + N + h.2.2.2 = slots + (h.2.2.2 + (dfl (ks.getD 0 0)).length); omega)
        rw [List.map_cons, hq, ai_vs_ext hle hst] at this
        exact this
    · cases hp
  case newarray at_ =>
    simp only [ai_heap] at hp
    split at hp
    · rename_i n r
      split at hp
      · rename_i hn
        cases hp
        obtain ⟨hn, hn0, hnb⟩ := hn
        have hn : h.1 (ks.getD 1 0, h.2.1 (ks.getD 1 0)) = none := by simpa using hn
        obtain ⟨g1, g2, g5, g3⟩ := hok
        have hrc' : cells + 1 ≤ R.cells := by
          have : cells + (h.2.2.1 + 1) ≤ R.cells + h.2.2.1 := hrc
          omega
        have hrs' : slots + n.toNatClampNeg ≤ R.slots := by
          have : slots + (h.2.2.2 + n.toNatClampNeg) ≤ R.slots + h.2.2.2 := hrs
          omega
        have hby : n.toNatClampNeg * componentBytes (newarray.typeOf at_) ≤ 536870912 := by
          have : componentBytes (newarray.typeOf at_) ≤ 8 := by cases at_ <;> decide
          exact Nat.le_trans (Nat.mul_le_mul_left _ this) hnb
        have hle : ∀ q, ai_le h ρ (ai_at ρ (ks.getD 1 0, h.2.1 (ks.getD 1 0)) q) := fun q => ai_at_le hn
        have hq : ∀ q, ai_v (ai_at ρ (ks.getD 1 0, h.2.1 (ks.getD 1 0)) q) (.inr (.inr (some (ks.getD 1 0, h.2.1 (ks.getD 1 0))))) = .ref q := fun q => by simp [ai_v, ai_at]
        have hcA : ∀ cA, va_K D cl (ai_tys dA tyL ++ [(cA, newarray.typeOf at_)]) s → cA = dA (ks.getD 0 0) := by
          intro cA hKA
          have e1 := (hKA.2 (ai_tys dA tyL).length (cA, newarray.typeOf at_) (by simp)).2
          have e2 := (hK.2 _ _ (ai_tys_at (dA := dA) g1 g2)).2
          exact ai_RA_inj e1 e2
        by_cases hlong : newarray.typeOf at_ = .long
        · rw [if_pos (by rw [← hlong]; exact g1)] at k
          refine va_newa hx hb (hts _ g3) rfl hK hP hD hS hB (a0 := (n.toNatClampNeg, .inr (.inl fun _ => 0))) (fun cA => by rw [hlong]; rfl) hn0 rfl hby hrc' hrs' hd (fun q cA H1 hKA q1 q2 q3 => ?_)
          obtain rfl := hcA cA hKA
          have := k (ai_at ρ (ks.getD 1 0, h.2.1 (ks.getD 1 0)) q) H1 locs (cells + 1) (slots + n.toNatClampNeg) (hle q) (ai_R.new h1 hc hn rfl trivial q1 q2) q3 (ai_oks (ai_ok_ref (by simp [ai_new, ai_upd])) (ai_oksN (ai_okt hst))) (fun b z => ai_new_some z) (on rfl) (by show cells + 1 + h.2.2.1 = cells + (h.2.2.1 + 1); omega) (by show slots + n.toNatClampNeg + h.2.2.2 = slots + (h.2.2.2 + n.toNatClampNeg); omega)
          rw [List.map_cons, hq, ai_vs_ext (hle q) (ai_okt hst)] at this
          exact this
        · rw [if_neg (by rw [g1]; exact hlong)] at k
          refine va_newa hx hb (hts _ g3) rfl hK hP hD hS hB (a0 := (n.toNatClampNeg, .inl fun _ => 0)) (fun cA => by cases at_ <;> first | rfl | exact absurd rfl hlong | exact absurd rfl g2 | exact absurd rfl g5) hn0 rfl hby hrc' hrs' hd (fun q cA H1 hKA q1 q2 q3 => ?_)
          obtain rfl := hcA cA hKA
          have := k (ai_at ρ (ks.getD 1 0, h.2.1 (ks.getD 1 0)) q) H1 locs (cells + 1) (slots + n.toNatClampNeg) (hle q) (ai_R.new h1 hc hn rfl trivial q1 q2) q3 (ai_oks (ai_ok_ref (by simp [ai_new, ai_upd])) (ai_oksN (ai_okt hst))) (fun b z => ai_new_some z) (on rfl) (by show cells + 1 + h.2.2.1 = cells + (h.2.2.1 + 1); omega) (by show slots + n.toNatClampNeg + h.2.2.2 = slots + (h.2.2.2 + n.toNatClampNeg); omega)
          rw [List.map_cons, hq, ai_vs_ext (hle q) (ai_okt hst)] at this
          exact this
      · cases hp
    · cases hp
  case anewarray idx =>
    simp only [ai_heap] at hp
    split at hp
    · rename_i n r
      split at hp
      · rename_i hn
        cases hp
        obtain ⟨hn, hn0, hnb⟩ := hn
        have hn : h.1 (ks.getD 1 0, h.2.1 (ks.getD 1 0)) = none := by simpa using hn
        obtain ⟨C, g1, g2, g3⟩ := hok
        have hrc' : cells + 1 ≤ R.cells := by
          have : cells + (h.2.2.1 + 1) ≤ R.cells + h.2.2.1 := hrc
          omega
        have hrs' : slots + n.toNatClampNeg ≤ R.slots := by
          have : slots + (h.2.2.2 + n.toNatClampNeg) ≤ R.slots + h.2.2.2 := hrs
          omega
        refine va_newq hx hb hown (hts _ g2) (va_AO.of (hts _ g3)) hK hP hD hS hB hn0 rfl (by omega) hrc' hrs' hd (fun q cA H1 hKA q1 q2 q3 => ?_)
        have hcA : cA = dA (ks.getD 0 0) := by
          have e1 := (hKA.2 (ai_tys dA tyL).length (cA, .object C) (by simp)).2
          have e2 := (hK.2 _ _ (ai_tys_at (dA := dA) g1 (by simp))).2
          exact ai_RA_inj e1 e2
        subst hcA
        have hle : ai_le h ρ (ai_at ρ (ks.getD 1 0, h.2.1 (ks.getD 1 0)) q) := ai_at_le hn
        have hq : ai_v (ai_at ρ (ks.getD 1 0, h.2.1 (ks.getD 1 0)) q) (.inr (.inr (some (ks.getD 1 0, h.2.1 (ks.getD 1 0))))) = .ref q := by simp [ai_v, ai_at]
        have := k (ai_at ρ (ks.getD 1 0, h.2.1 (ks.getD 1 0)) q) H1 locs (cells + 1) (slots + n.toNatClampNeg) hle (ai_R.new (x := .inr (.inl (ks.getD 0 0, n.toNatClampNeg, .inr (.inr fun _ => none)))) h1 hc hn rfl (fun _ _ z => by cases z) q1 q2) q3 (ai_oks (ai_ok_ref (by simp [ai_new, ai_upd])) (ai_oksN (ai_okt hst))) (fun b z => ai_new_some z) (on rfl) (by show cells + 1 + h.2.2.1 = cells + (h.2.2.1 + 1); omega) (by show slots + n.toNatClampNeg + h.2.2.2 = slots + (h.2.2.2 + n.toNatClampNeg); omega)
        rw [List.map_cons, hq, ai_vs_ext hle (ai_okt hst)] at this
        exact this
      · cases hp
    · cases hp
  case checkcast idx =>
    simp only [ai_heap] at hp
    split at hp
    · cases hp
      exact lv_castN hx hb hd (k ρ H locs cells slots ai_le_refl hR0 hS hst (fun _ z => z) (fun _ _ z => z) rfl rfl)
    · split at hp
      · rename_i a r _ cj fs ha
        split at hp
        · rename_i hc2
          cases hp
          subst hc2
          obtain ⟨C, T, N, g1, g2⟩ := hok
          obtain ⟨j, -, hj⟩ := ai_R.idx (D := D) (cl := cl) (dA := dA) (ρ := ρ) h1 ha rfl
          exact va_castS hx hb hown (hts _ g2) (hK.1 _ _ g1).2 (va_recv hK hP g1 hj) hd (k ρ H locs cells slots ai_le_refl hR0 hS hst (fun _ z => z) (fun _ _ z => z) rfl rfl)
        · cases hp
      · cases hp
    · cases hp
  all_goals (simp [ai_heap] at hp)
end AI3
