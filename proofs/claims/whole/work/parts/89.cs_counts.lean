/-! Who sleeps, who waits. -/
def mo_wc (aw : Int → Bool) : Nat → Int
  | 0 => 0
  | m + 1 => mo_wc aw m + (if aw m = true then 1 else 0)
theorem mo_wc_r {aw : Int → Bool} : ∀ (m : Nat), 0 ≤ mo_wc aw m ∧ mo_wc aw m ≤ m
  | 0 => ⟨Int.le_refl _, Int.le_refl _⟩
  | m + 1 => by
    have := mo_wc_r (aw := aw) m
    unfold mo_wc
    split <;> omega
section CSN
variable {L : Nat} {xs : Nat → Int32} {S : ty_S}
theorem ca_waitingNow (d : Nat) (hS : ty_st S) {an : Int} {al ar : Int → Int} {aw : Int → Bool} {k : Int} (hA : ca_R S an al ar aw k) :
    ty_C L xs (d + 1) 14 [.inr (.inr (some (39, 0)))] S (ty_oI fun z S' => z = mo_wc aw an.toNat ∧ S' = S) := by
  obtain ⟨⟨a1, a2, a3⟩, a4, -⟩ := hA
  have loop : ∀ (r m : Nat), (m + r : Int) = an → ty_W L xs d 14 4 [some (.inr (.inr (some (39, 0)))), some (.inl (ty_J (mo_wc aw m))), some (.inl (ty_J m))] [] S (ty_oI fun z S' => z = mo_wc aw an.toNat ∧ S' = S) := by
    intro r
    induction r with
    | zero =>
      intro m hm
      refine ty_iload_n (pc := 4) (i := 2) (ks := []) (by decide +kernel) rfl ?_
      refine ty_aload_n (pc := 5) (i := 0) (ks := []) (by decide +kernel) rfl ?_
      refine ty_getI (pc := 6) (idx := 22) (ci := 9) (f := 5) (by decide +kernel) (by first | rfl | assumption) rfl (by first | exact hS.1 _ _ rfl | assumption) (fun v hv => ?_)
      subst hv
      -- at 9: .if_icmp .ge 26
      rw [a1]
      refine ty_icmp_ge (pc := 9) (off := 26) (t := 35) (ks := []) (by decide +kernel) (by omega) (by omega) (fun hc => ?_) (fun hc => ?_)
      · refine ty_iload_n (pc := 35) (i := 1) (ks := []) (by decide +kernel) rfl ?_
        -- at 36: .ireturn
        refine ty_ret_i (pc := 36) (ks := []) (ty := .int) (by decide +kernel) rfl rfl ?_
        exact ⟨_, rfl, by rw [show an.toNat = m by omega], rfl⟩
      · omega
    | succ r ih =>
      intro m hm
      have h4 := a4 m (by omega) (by omega)
      refine ty_iload_n (pc := 4) (i := 2) (ks := []) (by decide +kernel) rfl ?_
      refine ty_aload_n (pc := 5) (i := 0) (ks := []) (by decide +kernel) rfl ?_
      refine ty_getI (pc := 6) (idx := 22) (ci := 9) (f := 5) (by decide +kernel) (by first | rfl | assumption) rfl (by first | exact hS.1 _ _ rfl | assumption) (fun v hv => ?_)
      subst hv
      -- at 9: .if_icmp .ge 26
      rw [a1]
      refine ty_icmp_ge (pc := 9) (off := 26) (t := 35) (ks := []) (by decide +kernel) (by omega) (by omega) (fun hc => ?_) (fun hc => ?_)
      · omega
      · have hwm : 0 ≤ S.2.2.1 (45, 0) m ∧ S.2.2.1 (45, 0) m ≤ 1 := by rw [h4.2.2]; split <;> omega
        refine ty_iload_n (pc := 12) (i := 1) (ks := []) (by decide +kernel) rfl ?_
        refine ty_aload_n (pc := 13) (i := 0) (ks := []) (by decide +kernel) rfl ?_
        refine ty_getS (b := (45, 0)) (pc := 14) (idx := 18) (ci := 9) (f := 4) (by decide +kernel) (by first | rfl | assumption) rfl (by first | exact hS.1 _ _ rfl | assumption) (by first | exact hS.2.2 _ _ _ _ rfl | assumption) ?_
        refine ty_iload_n (pc := 17) (i := 2) (ks := []) (by decide +kernel) rfl ?_
        refine ty_baload (pc := 18) (ks := []) (by decide +kernel) (by first | rfl | assumption) (by rfl) (by first | exact hS.1 _ _ rfl | assumption) (by first | exact hS.2.1 _ _ _ rfl | assumption) (by omega) (fun v hv => ?_)
        subst hv
        -- at 19: .ifCond .eq 7
        have e1 : mo_wc aw (m + 1) = mo_wc aw m + (if aw m = true then 1 else 0) := rfl
        have hi := ih (m + 1) (by omega)
        rw [show ((m + 1 : Nat) : Int) = (m : Int) + 1 by omega] at hi
        refine ty_if_eq (pc := 19) (off := 7) (t := 26) (ks := []) (by decide +kernel) (by omega) (fun hc => ?_) (fun hc => ?_)
        · refine ty_iconst (pc := 26) (n := 0) (ks := []) (by decide +kernel) ?_
          refine ty_iadd (pc := 27) (ks := []) (by decide +kernel) ?_
          refine ty_istore_n (pc := 28) (i := 1) (ks := []) (ls' := [_, _, _]) (by decide +kernel) rfl ?_
          refine ty_iinc (pc := 29) (i := 2) (n := 1) (ks := []) (ls' := [_, _, _]) (by decide +kernel) rfl rfl ?_
          refine ty_goto (pc := 32) (off := (-28)) (t := 4) (ks := []) (by decide +kernel) ?_
          -- at 4: .iload_n 2
          have hf : ¬ aw m = true := fun z => by rw [if_pos z] at h4; omega
          rw [e1, if_neg hf] at hi
          exact hi
        · refine ty_iconst (pc := 22) (n := 1) (ks := []) (by decide +kernel) ?_
          refine ty_goto (pc := 23) (off := 4) (t := 27) (ks := []) (by decide +kernel) ?_
          refine ty_iadd (pc := 27) (ks := []) (by decide +kernel) ?_
          refine ty_istore_n (pc := 28) (i := 1) (ks := []) (ls' := [_, _, _]) (by decide +kernel) rfl ?_
          refine ty_iinc (pc := 29) (i := 2) (n := 1) (ks := []) (ls' := [_, _, _]) (by decide +kernel) rfl rfl ?_
          refine ty_goto (pc := 32) (off := (-28)) (t := 4) (ks := []) (by decide +kernel) ?_
          -- at 4: .iload_n 2
          have hf : aw m = true := by
            by_cases e : aw m = true
            · exact e
            · rw [if_neg e] at h4
              exact absurd h4.2.2 hc
          rw [e1, if_pos hf] at hi
          exact hi
  refine ty_enter (ml := 3) (ls := [_, _, _]) rfl rfl (Nat.le_of_ble_eq_true rfl) ?_
  refine ty_iconst (pc := 0) (n := 0) (ks := []) (by decide +kernel) ?_
  refine ty_istore_n (pc := 1) (i := 1) (ks := []) (ls' := [_, _, _]) (by decide +kernel) rfl ?_
  refine ty_iconst (pc := 2) (n := 0) (ks := []) (by decide +kernel) ?_
  refine ty_istore_n (pc := 3) (i := 2) (ks := []) (ls' := [_, _, _]) (by decide +kernel) rfl ?_
  -- at 4: .iload_n 2
  have := loop an.toNat 0 (by omega)
  exact this
theorem cv_asleepOn (d : Nat) {B F E : ai_A} {n : Nat} {G : mo_G} {made ns : Int} {sl : Int → Int} {st k : Int} {u : mo_U} (hR : cp_R S B F E n G made ns sl st k u) (hw : mo_wf G) (hb : mo_bw G made u.2.1) {dn : List Int} (hcw : mo_cw made ns u.2.1 u.2.2.1 dn) {v : Int} (hv : 0 ≤ v ∧ v < made) :
    ty_C L xs (d + 3) 101 [.inr (.inr (some (13, 0))), .inl (ty_J v)] S (ty_oI fun z S' => z = (if mo_val G u.2.1 (-1 - v) < 0 then ((u.2.2.1 (-1 - mo_val G u.2.1 (-1 - v))).length : Int) else 0) ∧ S' = S) := by
  have hv0 := mo_val_isval hw hb (.inr ⟨show -1 - v < 0 by omega, show -1 - (-1 - v) < made by omega⟩)
  have hS := hR.1
  have hV := hR.2.1
  have hV' := hV
  have hmn := hR.2.2.2.1
  have r12 := hR.2.2.2.2.2.2.2.2.2.2.2
  obtain ⟨⟨v1, v2, v3⟩, ⟨k1, k2, k3⟩, ⟨p1, p2, p3⟩, ⟨l1, l2, l3⟩, ⟨m1, m2, m3⟩, ⟨o1, o2, o3⟩, hn⟩ := hV
  have loop : ∀ (es : List Int) (p : Int) (many val : Int), mo_lnk (S.2.2.1 (28, 0)) p es → (∀ c ∈ es, 0 ≤ c ∧ c < 500) → 0 ≤ many → many + es.length ≤ 500 → ty_W L xs (d + 2) 101 24 [some (.inr (.inr (some (13, 0)))), some (.inl (ty_J v)), some (.inl (ty_J val)), some (.inl (ty_J many)), some (.inl (ty_J p))] [] S (ty_oI fun z S' => z = many + es.length ∧ S' = S) := by
    intro es
    induction es with
    | nil =>
      intro p many val hl he h0 h1
      have hp : p = -1 := hl
      subst hp
      refine ty_iload (pc := 24) (i := 4) (ks := []) (by decide +kernel) rfl ?_
      refine ty_iconst (pc := 26) (n := (-1)) (ks := []) (by decide +kernel) ?_
      -- at 27: .if_icmp .eq 25
      refine ty_icmp_eq (pc := 27) (off := 25) (t := 52) (ks := []) (by decide +kernel) (by omega) (by omega) (fun hc => ?_) (fun hc => ?_)
      · refine ty_iload_n (pc := 52) (i := 3) (ks := []) (by decide +kernel) rfl ?_
        -- at 53: .ireturn
        refine ty_ret_i (pc := 53) (ks := []) (ty := .int) (by decide +kernel) rfl rfl ?_
        exact ⟨_, rfl, by simp, rfl⟩
      · exact absurd rfl hc
    | cons e es ih =>
      intro p many val hl he h0 h1
      obtain ⟨rfl, e0, hl2⟩ := hl
      have e5 := (he p List.mem_cons_self).2
      rw [List.length_cons] at h1
      refine ty_iload (pc := 24) (i := 4) (ks := []) (by decide +kernel) rfl ?_
      refine ty_iconst (pc := 26) (n := (-1)) (ks := []) (by decide +kernel) ?_
      -- at 27: .if_icmp .eq 25
      refine ty_icmp_eq (pc := 27) (off := 25) (t := 52) (ks := []) (by decide +kernel) (by omega) (by omega) (fun hc => ?_) (fun hc => ?_)
      · omega
      · clear hc
        refine ty_iload_n (pc := 30) (i := 3) (ks := []) (by decide +kernel) rfl ?_
        refine ty_sipush (pc := 31) (n := 500) (ks := []) (by decide +kernel) (by omega) ?_
        -- at 34: .if_icmp .ge 18
        refine ty_icmp_ge (pc := 34) (off := 18) (t := 52) (ks := []) (by decide +kernel) (by omega) (by omega) (fun hc => ?_) (fun hc => ?_)
        · omega
        · clear hc
          refine ty_iinc (pc := 37) (i := 3) (n := 1) (ks := []) (ls' := [_, _, _, _, _]) (by decide +kernel) rfl rfl ?_
          refine ty_aload_n (pc := 40) (i := 0) (ks := []) (by decide +kernel) rfl ?_
          refine ty_getS (b := (28, 0)) (pc := 41) (idx := 37) (ci := 2) (f := 9) (by decide +kernel) (by first | rfl | assumption) rfl (by first | exact hS.1 _ _ rfl | assumption) (by first | exact hS.2.2 _ _ _ _ rfl | assumption) ?_
          refine ty_iload (pc := 44) (i := 4) (ks := []) (by decide +kernel) rfl ?_
          refine ty_iaload (pc := 46) (ks := []) (by decide +kernel) (by first | rfl | assumption) (by rfl) (by first | exact hS.1 _ _ rfl | assumption) (by first | exact hS.2.1 _ _ _ rfl | assumption) (by omega) (fun v hv => ?_)
          subst hv
          refine ty_istore (pc := 47) (i := 4) (ks := []) (ls' := [_, _, _, _, _]) (by decide +kernel) rfl ?_
          refine ty_goto (pc := 49) (off := (-25)) (t := 24) (ks := []) (by decide +kernel) ?_
          -- at 24: .iload 4
          refine (ih _ (many + 1) val hl2 (fun c hm => he c (List.mem_cons_of_mem _ hm)) (by omega) (by omega)).mono ?_
          rintro o S' ⟨z, rfl, rfl, rfl⟩
          refine ⟨_, rfl, ?_, rfl⟩
          rw [List.length_cons]
          omega
  refine ty_enter (ml := 5) (ls := [_, _, _, _, _]) rfl rfl (Nat.le_of_ble_eq_true rfl) ?_
  refine ty_aload_n (pc := 0) (i := 0) (ks := []) (by decide +kernel) rfl ?_
  refine ty_iload_n (pc := 1) (i := 1) (ks := []) (by decide +kernel) rfl ?_
  refine ty_iconst (pc := 2) (n := (-1)) (ks := []) (by decide +kernel) ?_
  refine ty_inot (pc := 3) (ks := []) (by decide +kernel) ?_
  -- at 4: .invokevirtual 81
  refine ty_callv (pc := 4) (idx := 81) (m := 75) (n := 2) (c := 2) (vs := [_]) (r := []) (by decide +kernel) rfl rfl (Nat.le_of_ble_eq_true rfl) (by first | rfl | assumption) (by first | exact hS.1 _ _ rfl | assumption) (cv_value d hR hw hb (.inr ⟨show -1 - v < 0 by omega, show -1 - (-1 - v) < made by omega⟩)) ?_
  rintro _ S1 ⟨z, rfl, rfl, rfl⟩
  refine ty_KI ?_
  generalize mo_val G u.2.1 (-1 - v) = x at hv0
  have xr : -2147483648 ≤ x ∧ x ≤ 2147483647 := by
    rcases hv0 with z | z
    · omega
    · have := mo_ok_le hw z.2.1; omega
  refine ty_istore_n (pc := 7) (i := 2) (ks := []) (ls' := [_, _, _, _, _]) (by decide +kernel) rfl ?_
  refine ty_iconst (pc := 8) (n := 0) (ks := []) (by decide +kernel) ?_
  refine ty_istore_n (pc := 9) (i := 3) (ks := []) (ls' := [_, _, _, _, _]) (by decide +kernel) rfl ?_
  refine ty_iload_n (pc := 10) (i := 2) (ks := []) (by decide +kernel) rfl ?_
  -- at 11: .ifCond .ge 41
  refine ty_if_ge (pc := 11) (off := 41) (t := 52) (ks := []) (by decide +kernel) (by omega) (fun hc => ?_) (fun hc => ?_)
  · refine ty_iload_n (pc := 52) (i := 3) (ks := []) (by decide +kernel) rfl ?_
    -- at 53: .ireturn
    refine ty_ret_i (pc := 53) (ks := []) (ty := .int) (by decide +kernel) rfl rfl ?_
    exact ⟨_, rfl, by rw [if_neg (by omega)], rfl⟩
  · have hx := hv0.resolve_right (fun z => by omega)
    obtain ⟨q1, q2⟩ := hR.2.2.2.2.2.2.2.1.2 (-1 - x) hx.2.1 hx.2.2.1 hx.2.2.2
    obtain ⟨c1, c2, -⟩ := hcw.1 (-1 - x) hx.2.1 hx.2.2.1 hx.2.2.2
    have hlen := mo_count ns.toNat _ c2 (fun e he => by have := c1 e he; omega)
    refine ty_aload_n (pc := 14) (i := 0) (ks := []) (by decide +kernel) rfl ?_
    first | refine ty_getS (pc := 15) (idx := 15) (ci := 2) (f := 2) (by decide +kernel) (by first | rfl | assumption) rfl (by first | exact hS.1 _ _ rfl | assumption) (by assumption) ?_ | (refine ty_getR (pc := 15) (idx := 15) (ci := 2) (f := 2) (by decide +kernel) (by first | rfl | assumption) rfl (by first | exact hS.1 _ _ rfl | assumption) (fun v hv => ?_); (subst hv))
    refine ty_iload_n (pc := 18) (i := 2) (ks := []) (by decide +kernel) rfl ?_
    refine ty_iconst (pc := 19) (n := (-1)) (ks := []) (by decide +kernel) ?_
    refine ty_inot (pc := 20) (ks := []) (by decide +kernel) ?_
    refine ty_iaload (pc := 21) (ks := []) (by decide +kernel) (by first | rfl | assumption) (by rfl) (by first | exact hS.1 _ _ rfl | assumption) (by first | exact hS.2.1 _ _ _ rfl | assumption) (by omega) (fun v hv => ?_)
    subst hv
    refine ty_istore (pc := 22) (i := 4) (ks := []) (ls' := [_, _, _, _, _]) (by decide +kernel) rfl ?_
    -- at 24: .iload 4
    refine (loop _ _ 0 x q1 (fun c hm => by have := c1 c hm; omega) (Int.le_refl _) (by omega)).mono ?_
    rintro o S' ⟨z, rfl, rfl, rfl⟩
    exact ⟨_, rfl, by rw [if_pos (by omega)]; omega, rfl⟩
end CSN
