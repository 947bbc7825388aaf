/-! All methods: what a run of the abstract machine comes to, the real one comes to. -/
theorem ai_ent_len {ρ : ai_A → Nat} : ∀ av : List ai_V, (lg_sl (av.map (ai_v ρ))).length = (ai_ent av).length
  | [] => rfl
  | v :: vs => by
    have ih := ai_ent_len (ρ := ρ) vs
    have e9 : lg_sl ((v :: vs).map (ai_v ρ)) = (if (ai_v ρ v).category = 2 then [.val (ai_v ρ v), .second] else [.val (ai_v ρ v)]) ++ lg_sl (vs.map (ai_v ρ)) := rfl
    rw [e9, List.length_append, ih]
    rcases v with x | x | _ | a <;> simp [ai_v, Value.category, ai_ent, ai_two] <;> omega
theorem ai_ent_at {ρ : ai_A → Nat} : ∀ (av : List ai_V) (i k : Nat) (v : ai_V), (ai_ent av)[k]? = some (some v) → (i + k, ai_v ρ v) ∈ lv_args i (av.map (ai_v ρ))
  | [], _, _, _, h => by simp [ai_ent] at h
  | u :: vs, i, k, v, h => by
    by_cases hu : ai_two u = true
    · have hc : (ai_v ρ u).category = 2 := by
        rcases u with x | x | _ | a <;> first | rfl | (cases hu; done)
      simp only [ai_ent] at h
      rw [if_pos hu] at h
      simp only [List.map_cons, lv_args, hc, if_true]
      cases k with
      | zero =>
        simp only [List.getElem?_cons_zero, Option.some.injEq] at h
        rw [h]
        exact List.mem_cons_self
      | succ k =>
        cases k with
        | zero => simp at h
        | succ k =>
          simp only [List.getElem?_cons_succ] at h
          have := ai_ent_at (ρ := ρ) vs (i + 2) k v h
          rw [show i + (k + 1 + 1) = i + 2 + k by omega]
          exact List.mem_cons_of_mem _ this
    · have hc : ¬ (ai_v ρ u).category = 2 := by
        rw [ai_cat1 (by simpa using hu)]
        decide
      simp only [ai_ent] at h
      rw [if_neg hu] at h
      simp only [List.map_cons, lv_args, hc, if_false]
      cases k with
      | zero =>
        simp only [List.getElem?_cons_zero, Option.some.injEq] at h
        rw [h]
        exact List.mem_cons_self
      | succ k =>
        simp only [List.getElem?_cons_succ] at h
        have := ai_ent_at (ρ := ρ) vs (i + 1) k v h
        rw [show i + (k + 1) = i + 1 + k by omega]
        exact List.mem_cons_of_mem _ this
theorem ai_ent_lr {ρ : ai_A → Nat} {av : List ai_V} {n : Nat} (hn : (ai_ent av).length ≤ n) : ai_lr ρ (ai_ent av ++ List.replicate (n - (ai_ent av).length) none) ((lg_sl (av.map (ai_v ρ)) ++ List.replicate (n - (lg_sl (av.map (ai_v ρ))).length) Slot.unset).toArray) := by
  have hl := lv_entry (av.map (ai_v ρ)) (n := n) (by rw [ai_ent_len]; exact hn)
  refine ⟨lv_args 0 (av.map (ai_v ρ)), ?_, fun k v hk => ?_⟩
  · have e1 : (ai_ent av ++ List.replicate (n - (ai_ent av).length) (none : Option ai_V)).length = n := by simp; omega
    rw [e1]
    exact hl
  · have hk' : (ai_ent av)[k]? = some (some v) := by
      by_cases hlt : k < (ai_ent av).length
      · rw [List.getElem?_append_left hlt] at hk
        exact hk
      · rw [List.getElem?_append_right (by omega), List.getElem?_replicate] at hk
        split at hk <;> cases hk
    have := ai_ent_at (ρ := ρ) av 0 k v hk'
    rw [Nat.zero_add] at this
    exact this
theorem ai_ent_ok {h : ai_H} : ∀ {av : List ai_V}, (∀ v ∈ av, ai_ok h v) → ∀ v, some v ∈ ai_ent av → ai_ok h v
  | [], _, v, hv => by simp [ai_ent] at hv
  | u :: vs, hs, v, hv => by
    have ih := ai_ent_ok (ai_okt hs) v
    unfold ai_ent at hv
    split at hv
    · simp only [List.mem_cons] at hv
      rcases hv with z | z | z
      · cases z; exact hs _ List.mem_cons_self
      · cases z
      · exact ih z
    · simp only [List.mem_cons] at hv
      rcases hv with z | z
      · cases z; exact hs _ List.mem_cons_self
      · exact ih z
theorem ai_W_mono {p : Program} {l : Launch} {e : Env} {R : Room} {s : State} {m : MethodId} {args : Array Value} {below : List Frame} {meth : Method} {c : Code} {H : Heap} {locs : List Loc} {cells slots : Nat} {Q Q' : State → Prop} {g : JFrame} (hq : ∀ t, Q t → Q' t) (k : W p l e R s m args below meth c H locs cells slots Q g) : W p l e R s m args below meth c H locs cells slots Q' g := by
  intro T hT X
  obtain ⟨t, a, b⟩ := k T hT X
  exact ⟨t, a, hq t b⟩
def ai_Qf (below : List Frame) (B : Nat → Prop) (mc ms : Nat) (Qr : State → Option Value → State → Prop) (Qt : State → Addr → State → Prop) (args : Array Value) (s : State) : State → Prop := fun t => ∃ o', t.status = .running ∧ Ended t below o' ∧ ai_End B mc ms Qr Qt args s o' t
section AIS
variable {Ts : List Cond} {cl : List vw_C} {P : ai_P} {M : ai_M} {ex : Nat → String} {D : va_G} {dA : Nat → ClassId} {b0 L : Nat} {xs : Nat → Int32}
set_option maxHeartbeats 4000000 in
theorem ai_sound (hgood : ∀ w ∈ Ts, ai_good w = true) (hcl : ai_clok Ts cl P.2.2.2.2.2.1) (hasg : ai_aok Ts cl P.2.2.2.2.1 P.2.2.2.2.2.2) (hmo : ai_mok Ts cl P M ex) (l : Launch) (hl : l.stackTraces = false) (N : Nat) :
    ∀ d mi y cc hh, M mi = some (y, cc, hh) → ∀ av h o h', ai_call P L xs N d mi av h = some (o, h') → ∀ ρ, ai_Met l y Ts (ai_rm d h h') (ai_Pre cl P.2.2.2.2.1 D dA b0 L xs ρ h av) (fun q => b0 ≤ q) (ai_Qr cl D dA b0 ρ h o h') (ai_Qt cl D dA b0 ex ρ h o h') := by
  intro d
  induction d with
  | zero => intro mi y cc hh _ av h o h' hc; cases hc
  | succ d ihd =>
    intro mi y cc hh hM av h o h' hc ρ
    unfold ai_call at hc
    split at hc
    · rename_i hfit
      obtain ⟨pl1, pl2, pl3, pl4, pl5, pl6, rows⟩ := hmo _ _ _ _ hM
      have hm := ai_run_mono (ai_call_mono d) _ _ _ _ _ _ _ hc
      refine MetFree.of_bodySF (code := cc) (maxLocals := (P.2.2.1 mi).1) (ret := (P.2.2.1 mi).2) pl1 ?_ ?_
      · intro args s m hpre hn
        obtain ⟨mk, methY, cd, g1, g2, g3, g4, g5, g6, g7, g8, g9⟩ := ai_cw_spec (atoms_spec (ws := Ts) hpre) pl4
        cases hn.symm.trans g1
        exact ⟨methY, cd, g2, g3, g4, g5, g7, g8⟩
      · intro p e s m args below meth c s₁ Bd hml hP _
        obtain ⟨rfl, hR, hK, hB0, hav, hsc, hz⟩ := hP
        have hts := atoms_spec (ws := Ts) Bd.pre
        have hown : s.vm.findClass y.cls = some m.cls := findClass_of_methodNamed Bd.named
        have hh0 : s₁.heap = s.heap := by rw [Bd.state]; rfl
        have X₀ := Stand.of_body Bd
        have htab : c.exceptionTable.toList.map (fun x => (x.startPc, x.endPc, x.handlerPc, x.catchType)) = hh := by
          obtain ⟨mk, methY, cd, g1, g2, g3, g4, g5, g6, -⟩ := ai_cw_spec hts pl4
          cases Bd.named.symm.trans g1
          cases Bd.method.symm.trans g2
          cases X₀.code.symm.trans g3
          exact g6
        have kr : ai_KR cl P mi D dA b0 p l e (ai_rm (d + 1) h h') s m (av.map (ai_v ρ)).toArray below meth c (ai_Qf below (fun q => b0 ≤ q) (ai_rm (d + 1) h h').cells (ai_rm (d + 1) h h').slots (ai_Qr cl D dA b0 ρ h o h') (ai_Qt cl D dA b0 ex ρ h o h') (av.map (ai_v ρ)).toArray s) cc ρ h 0 0 o h' := by
          intro w ρ' H' locs' cells' slots' lsB pc' ins w1 w2 w3 w4 w5 w6 w7 w8 w9
          have hcells : cells' = (ai_rm (d + 1) h h').cells := by show cells' = h'.2.2.1 - h.2.2.1; omega
          have hslots : slots' = (ai_rm (d + 1) h h').slots := by show slots' = h'.2.2.2 - h.2.2.2; omega
          subst hcells; subst hslots
          have fin : ∀ (v : Option Value), v = w.map (ai_v ρ') → ∀ t : State, t.heap = H' → s.WarmedH t.vm → ai_Qr cl D dA b0 ρ h o h' s v t := fun v hv t ht _ => ⟨ρ', w, w1, hv, w2, by rw [ht]; exact w3, w5, w4.F ht⟩
          have out : ∀ t, MQ below (fun _ st oc t => ∃ v, oc = .returned v ∧ ai_Qr cl D dA b0 ρ h o h' st v t) (av.map (ai_v ρ)).toArray s (ai_rm (d + 1) h h').cells (ai_rm (d + 1) h h').slots (fun q => b0 ≤ q) t → ai_Qf below (fun q => b0 ≤ q) (ai_rm (d + 1) h h').cells (ai_rm (d + 1) h h').slots (ai_Qr cl D dA b0 ρ h o h') (ai_Qt cl D dA b0 ex ρ h o h') (av.map (ai_v ρ)).toArray s t := by
            rintro t ⟨o', b1, b2, ⟨v, rfl, b3⟩, Lq, ⟨-, b4, b5⟩, b6⟩
            exact ⟨_, b1, b2, Lq, b6, b4, b5, Or.inl ⟨v, rfl, b3⟩⟩
          refine ai_W_mono out ?_
          cases ins
          case return_ =>
            simp only [ai_ret] at w9
            split at w9
            · rename_i hret hnil
              cases w9
              exact W.vret Bd.exec Bd.bytes (Bd.returns.trans hret) (fun t ht hW => ⟨none, rfl, fin none rfl t ht hW⟩) w4.2.2 w8 Bd.notSynchronized
            · cases w9
          case ireturn =>
            simp only [ai_ret] at w9
            split at w9
            · rename_i ty x hret hst
              split at w9
              · rename_i hf
                cases w9
                exact W.zret Bd.exec Bd.bytes (Bd.returns.trans hret) (ai_fit_ok (ρ := ρ') hf).1 (fun t ht hW => ⟨some (.int x), rfl, fin _ rfl t ht hW⟩) w4.2.2 w8 Bd.notSynchronized
              · cases w9
            · cases w9
          case areturn =>
            simp only [ai_ret] at w9
            split at w9
            · rename_i nm x hret hst
              cases w9
              exact W.aret Bd.exec Bd.bytes (Bd.returns.trans hret) (Or.inl ⟨_, rfl⟩) (by cases x; exact Or.inl rfl; exact Or.inr ⟨_, rfl⟩) (fun t ht hW => ⟨_, rfl, fin _ rfl t ht hW⟩) w4.2.2 w8 Bd.notSynchronized
            · rename_i nm x hret hst
              cases w9
              exact W.aret Bd.exec Bd.bytes (Bd.returns.trans hret) (Or.inr ⟨_, rfl⟩) (by cases x; exact Or.inl rfl; exact Or.inr ⟨_, rfl⟩) (fun t ht hW => ⟨_, rfl, fin _ rfl t ht hW⟩) w4.2.2 w8 Bd.notSynchronized
            · cases w9
          all_goals (simp [ai_ret] at w9)
        have kt : ai_KT cl D dA b0 ex s below (ai_Qf below (fun q => b0 ≤ q) (ai_rm (d + 1) h h').cells (ai_rm (d + 1) h h').slots (ai_Qr cl D dA b0 ρ h o h') (ai_Qt cl D dA b0 ex ρ h o h') (av.map (ai_v ρ)).toArray s) ρ h 0 0 o h' := by
          intro x t q ce ρ' locs' cells' slots' w1 w2 w3 w4 w5 w6 w7 w8 w9 w10 w11 w12 w13 w14
          have hcells : cells' = (ai_rm (d + 1) h h').cells := by show cells' = h'.2.2.1 - h.2.2.1; omega
          have hslots : slots' = (ai_rm (d + 1) h h').slots := by show slots' = h'.2.2.2 - h.2.2.2; omega
          subst hcells; subst hslots
          exact ⟨.threw q, w2, w3, locs', w6, w4, w5, Or.inr ⟨q, rfl, ρ', x, ce, w1, w7, w8, w9, w10, w11, w12⟩⟩
        have hw := ai_frame (p := p) (l := l) (e := e) (R := ai_rm (d + 1) h h') (s := s) (m := m) (args := (av.map (ai_v ρ)).toArray) (below := below) (meth := meth) (c := c) (cc := cc) (mi := mi)
          hgood hcl hasg hmo rows Bd.exec Bd.bytes hml hown hts Bd.notSynchronized (name_of_methodNamed Bd.named Bd.method).1 htab hK hB0 hl hz (d := d) (by show d + 13 ≤ d + 1 + 12; omega) (by show 64 * d + 364 ≤ 64 * (d + 1) + 300; omega) (ai_call_mono d) ihd
          _ _ _ _ _ _ _ hc ρ s.heap [] 0 0 _ hR va_S.rf (ai_ent_lr hfit) (by simp; omega) (fun _ z => (nomatch z)) (fun v hv => by
            rcases List.mem_append.mp hv with z | z
            · exact ai_ent_ok hav v z
            · exact absurd (List.eq_of_mem_replicate z) (by simp)) hsc (by show 0 + h'.2.2.1 ≤ (h'.2.2.1 - h.2.2.1) + h.2.2.1; omega) (by show 0 + h'.2.2.2 ≤ (h'.2.2.2 - h.2.2.2) + h.2.2.2; omega) kr kt
        have e9 : (F0 m 0 ((lg_sl (av.map (ai_v ρ)) ++ List.replicate ((P.2.2.1 mi).1 - (lg_sl (av.map (ai_v ρ))).length) Slot.unset).toArray) (List.map (ai_v ρ) [])) = entryFrame m (av.map (ai_v ρ)).toArray (P.2.2.1 mi).1 := (lg_entry_eq m (av.map (ai_v ρ)) (P.2.2.1 mi).1).symm
        rw [e9] at hw
        obtain ⟨t, a1, o', b1, b2, b3⟩ := hw s₁ hh0 X₀
        exact ⟨t, o', a1, b1, b2, b3⟩
    · cases hc
end AIS
