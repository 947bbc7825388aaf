/-! The next clause that fits, in the reference. -/
theorem pt_c_head {h : Int → Int} (hok : (pt_c h).1 = true) : (97 ≤ h 0 ∧ h 0 ≤ 122) ∧ (pt_t h 5 0).1 = true ∧ (∃ as N, (pt_t h 5 0).2.2 = (0, as) :: N ∧ (0, as) ∈ (pt_c h).2.2.2) ∧ (h (pt_t h 5 0).2.1 = 0 ∨ h (pt_t h 5 0).2.1 = 58) ∧ (h (pt_t h 5 0).2.1 = 0 → (pt_c h).2.2.1 = [] ∧ (pt_c h).2.2.2 = (pt_t h 5 0).2.2) ∧ (h (pt_t h 5 0).2.1 = 58 → (pt_gs h 24 ((pt_t h 5 0).2.1 + 1)).1 = true ∧ (pt_c h).2.2.1 = (pt_gs h 24 ((pt_t h 5 0).2.1 + 1)).2.2.1 ∧ (pt_c h).2.2.2 = (pt_t h 5 0).2.2 ++ (pt_gs h 24 ((pt_t h 5 0).2.1 + 1)).2.2.2) := by
  unfold pt_c at hok ⊢
  by_cases e1 : ¬ (97 ≤ h 0 ∧ h 0 ≤ 122)
  · rw [if_pos e1] at hok
    exact absurd (show false = true from hok) (by decide)
  rw [if_neg e1] at hok ⊢
  have e1 := Decidable.not_not.mp e1
  by_cases e2 : (pt_t h 5 0).1 = false
  · rw [if_pos e2] at hok
    exact absurd (show false = true from hok) (by decide)
  rw [if_neg e2] at hok ⊢
  have e2 : (pt_t h 5 0).1 = true := by simpa using e2
  have hd : ∃ as N, (pt_t h 5 0).2.2 = (0, as) :: N := by
    unfold pt_t
    rw [if_neg (not_not_intro (.inr (.inr e1)))]
    by_cases e : (97 ≤ h 0 ∧ h 0 ≤ 122) ∧ h (0 + 1) = 40
    · rw [if_pos e]
      exact ⟨_, _, rfl⟩
    · rw [if_neg e]
      exact ⟨_, _, rfl⟩
  obtain ⟨as, N, hd⟩ := hd
  by_cases e3 : h (pt_t h 5 0).2.1 = 0
  · rw [if_pos e3]
    exact ⟨e1, e2, ⟨as, N, hd, by rw [hd]; exact List.mem_cons_self⟩, .inl e3, fun _ => ⟨rfl, rfl⟩, fun z => by omega⟩
  · rw [if_neg e3] at hok ⊢
    by_cases e4 : h (pt_t h 5 0).2.1 ≠ 58
    · rw [if_pos e4] at hok
      exact absurd (show false = true from hok) (by decide)
    · rw [if_neg e4] at hok ⊢
      exact ⟨e1, e2, ⟨as, N, hd, List.mem_append.mpr (.inl (by rw [hd]; exact List.mem_cons_self))⟩, .inr (Decidable.not_not.mp e4), fun z => absurd z e3, fun _ => ⟨hok, rfl, rfl⟩⟩
section RMN
variable {L : Nat} {xs : Nat → Int32} {S S0 : ty_S} {I : Nat → Int} {A : Nat → Int → Int} {tau : dk_T} {s : Nat → Nat} {m : Nat}
/-- a clause in use: its text and what it is like -/
theorem rp_text (hU : dk_U S0 tau) (hs : dk_s tau s m) {i : Nat} (hi : i < m) : ∃ t, tau (s i) = some t ∧ s i < 12 ∧ t.length ≤ 48 ∧ (∀ c ∈ t, 33 ≤ c ∧ c ≤ 126) ∧ (pt_c (dk_f t)).1 = true ∧ 0 < t.length ∧ (dk_r (s i) t) = pt_c (dk_f t) := by
  obtain ⟨h1, t, ht⟩ := hs.2 i hi
  have ok := (hU _ t ht).1
  have e : dk_r (s i) t = pt_c (dk_f t) := if_neg (by omega)
  have sp := dk_spec ok
  refine ⟨t, ht, h1, ok.2.1, ok.2.2.1, ?_, ?_, e⟩
  · have := ok.2.2.2
    rw [e] at this
    exact this
  · have := sp.1
    rw [sp.2.1] at this
    omega
theorem rm_nextFit (d : Nat) (hS : ty_st S) (hU : dk_U S0 tau) (hs : dk_s tau s m) (hrp : rp I A tau s m) {x t : Int} (hx : 0 ≤ x ∧ x < 24000) (hl : A 60 x = mo_l (dk_G S0 tau) t) (hlr : 0 ≤ mo_l (dk_G S0 tau) t ∧ mo_l (dk_G S0 tau) t ≤ 65535) (ha : A 61 x = mo_a (dk_G S0 tau) t) (har : 0 ≤ mo_a (dk_G S0 tau) t ∧ mo_a (dk_G S0 tau) t ≤ 3) {i0 : Int} (hi0 : 0 ≤ i0 ∧ i0 ≤ m) :
    ty_C L xs (d + 2) 126 [.inr (.inr (some (94, 0))), .inl (ty_J i0), .inl (ty_J x)] (rm_s S I A) (ty_oI fun z S' => z = (if mo_next (dk_P S0 tau s m) t i0 = -1 then (m : Int) else mo_next (dk_P S0 tau s m) t i0) ∧ S' = rm_s S I A) := by
  have hm := hs.1
  have hcl := hrp.1.1
  have loop : ∀ (k : Nat) (i : Int), 0 ≤ i → i + k = m → ty_W L xs (d + 1) 126 2 [some (.inr (.inr (some (94, 0)))), some (.inl (ty_J i0)), some (.inl (ty_J x)), some (.inl (ty_J i))] [] (rm_s S I A) (ty_oI fun z S' => z = (if mo_find (dk_P S0 tau s m) t k i = -1 then (m : Int) else mo_find (dk_P S0 tau s m) t k i) ∧ S' = rm_s S I A) := by
    intro k
    induction k with
    | zero =>
      intro i h0 h1
      refine ty_iload_n (pc := 2) (i := 3) (ks := []) (by decide +kernel) rfl ?_
      refine ty_aload_n (pc := 3) (i := 0) (ks := []) (by decide +kernel) rfl ?_
      refine ty_getI (pc := 4) (idx := 171) (ci := 13) (f := 8) (by decide +kernel) (by first | rfl | assumption) rfl (by first | exact hS.1 _ _ rfl | assumption) (fun v hv => ?_)
      simp (decide := true) only [rm_I, rm_u, rm_w, ty_sI, ty_sR, ty_sA, ty_sQ, ty_mA, ty_mQ, ↓reduceIte, false_and, and_false, true_and, and_true, and_self] at hv
      subst hv
      -- at 7: .if_icmp .ge 18
      rw [hcl]
      refine ty_icmp_ge (pc := 7) (off := 18) (t := 25) (ks := []) (by decide +kernel) (by omega) (by omega) (fun hc => ?_) (fun hc => ?_)
      · refine ty_iload_n (pc := 25) (i := 3) (ks := []) (by decide +kernel) rfl ?_
        -- at 26: .ireturn
        refine ty_ret_i (pc := 26) (ks := []) (ty := .int) (by decide +kernel) rfl rfl ?_
        refine ⟨i, rfl, ?_, rfl⟩
        have e : mo_find (dk_P S0 tau s m) t 0 i = -1 := rfl
        rw [if_pos e]
        omega
      · omega
    | succ k ih =>
      intro i h0 h1
      obtain ⟨tx, t1, t2, t3, t4, t5, t6, t7⟩ := rp_text hU hs (i := i.toNat) (by omega)
      obtain ⟨r1, r2⟩ := hrp.2 i.toNat (by omega) tx t1
      rw [show ((i.toNat : Nat) : Int) = i by omega] at r1 r2
      obtain ⟨p1, p2, ⟨as, N, p3, p4⟩, -⟩ := pt_c_head t5
      have hF := rm_fits_t (L := L) (xs := xs) (S := S) (I := I) (A := A) (ci := i) d hS ⟨h0, by omega⟩ t3 t4 r1 r2 t6 p2 p1 hx hl hlr ha har p3
      obtain ⟨-, n2, n3, -⟩ := dk_node hU t1 (by rw [t7]; exact p4)
      rw [show 48 * ((s i.toNat : Nat) : Int) + 0 = 48 * ((s i.toNat : Nat) : Int) by omega] at n2 n3
      have e48 : 48 * ((s i.toNat : Nat) : Int) % 624 = 48 * ((s i.toNat : Nat) : Int) := by omega
      have hfit : mo_fits (dk_P S0 tau s m) t i = true ↔ dk_f tx 0 = mo_l (dk_G S0 tau) t ∧ (as.length : Int) = mo_a (dk_G S0 tau) t := by
        unfold mo_fits
        have q1 : mo_l (dk_G S0 tau) (48 * ((s i.toNat : Nat) : Int)) = dk_f tx 0 := by
          show S0.2.2.1 (19, 0) (48 * ((s i.toNat : Nat) : Int) % 624) = _
          rw [e48]
          exact n2
        have q2 : mo_a (dk_G S0 tau) (48 * ((s i.toNat : Nat) : Int)) = as.length := by
          show S0.2.2.1 (20, 0) (48 * ((s i.toNat : Nat) : Int) % 624) = _
          rw [e48]
          exact n3
        show (decide (mo_l (dk_G S0 tau) (48 * ((s i.toNat : Nat) : Int)) = mo_l (dk_G S0 tau) t) && decide (mo_a (dk_G S0 tau) (48 * ((s i.toNat : Nat) : Int)) = mo_a (dk_G S0 tau) t)) = true ↔ _
        rw [q1, q2, Bool.and_eq_true, decide_eq_true_eq, decide_eq_true_eq]
      refine ty_iload_n (pc := 2) (i := 3) (ks := []) (by decide +kernel) rfl ?_
      refine ty_aload_n (pc := 3) (i := 0) (ks := []) (by decide +kernel) rfl ?_
      refine ty_getI (pc := 4) (idx := 171) (ci := 13) (f := 8) (by decide +kernel) (by first | rfl | assumption) rfl (by first | exact hS.1 _ _ rfl | assumption) (fun v hv => ?_)
      simp (decide := true) only [rm_I, rm_u, rm_w, ty_sI, ty_sR, ty_sA, ty_sQ, ty_mA, ty_mQ, ↓reduceIte, false_and, and_false, true_and, and_true, and_self] at hv
      subst hv
      -- at 7: .if_icmp .ge 18
      rw [hcl]
      refine ty_icmp_ge (pc := 7) (off := 18) (t := 25) (ks := []) (by decide +kernel) (by omega) (by omega) (fun hc => ?_) (fun hc => ?_)
      · omega
      clear hc
      refine ty_aload_n (pc := 10) (i := 0) (ks := []) (by decide +kernel) rfl ?_
      refine ty_iload_n (pc := 11) (i := 3) (ks := []) (by decide +kernel) rfl ?_
      refine ty_iload_n (pc := 12) (i := 2) (ks := []) (by decide +kernel) rfl ?_
      -- at 13: .invokevirtual 273
      refine ty_callv (pc := 13) (idx := 273) (m := 127) (n := 3) (c := 13) (vs := [_, _]) (r := []) (by decide +kernel) rfl rfl (Nat.le_of_ble_eq_true rfl) (by first | rfl | assumption) (by first | exact hS.1 _ _ rfl | assumption) hF ?_
      rintro _ S1 ⟨z, rfl, hz, rfl⟩
      refine ty_KI ?_
      unfold mo_find
      by_cases e : mo_fits (dk_P S0 tau s m) t i = true
      · rw [if_pos (hfit.mp e)] at hz
        rw [if_pos e]
        refine ty_if_ne (pc := 16) (off := 9) (t := 25) (ks := []) (by decide +kernel) (by omega) (fun hc => ?_) (fun hc => ?_)
        rotate_left
        · omega
        refine ty_iload_n (pc := 25) (i := 3) (ks := []) (by decide +kernel) rfl ?_
        -- at 26: .ireturn
        refine ty_ret_i (pc := 26) (ks := []) (ty := .int) (by decide +kernel) rfl rfl ?_
        exact ⟨i, rfl, by rw [if_neg (by omega)], rfl⟩
      · rw [if_neg (fun q => e (hfit.mpr q))] at hz
        rw [if_neg e]
        refine ty_if_ne (pc := 16) (off := 9) (t := 25) (ks := []) (by decide +kernel) (by omega) (fun hc => ?_) (fun hc => ?_)
        · omega
        refine ty_iinc (pc := 19) (i := 3) (n := 1) (ks := []) (ls' := [_, _, _, _]) (by decide +kernel) rfl rfl ?_
        refine ty_goto (pc := 22) (off := (-20)) (t := 2) (ks := []) (by decide +kernel) ?_
        -- at 2: .iload_n 3
        exact ih (i + 1) (by omega) (by omega)
  have := loop ((m : Int) - i0).toNat i0 hi0.1 (by omega)
  refine ty_enter (ml := 4) (ls := [_, _, _, _]) rfl rfl (Nat.le_of_ble_eq_true rfl) ?_
  refine ty_iload_n (pc := 0) (i := 1) (ks := []) (by decide +kernel) rfl ?_
  refine ty_istore_n (pc := 1) (i := 3) (ks := []) (ls' := [_, _, _, _]) (by decide +kernel) rfl ?_
  -- at 2: .iload_n 3
  exact this
end RMN
