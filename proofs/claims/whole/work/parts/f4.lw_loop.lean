/-! The law's loop. -/
theorem lw_and (x : Int32) : ∃ c : Int, x &&& ty_J 7 = ty_J c ∧ 0 ≤ c ∧ c ≤ 7 := by
  have h2 : (x &&& ty_J 7).toInt = (x.toBitVec &&& 7#32).toInt := rfl
  have h3 : x.toBitVec.toNat &&& (7#32).toNat ≤ 7 := Nat.and_le_right
  have h : 0 ≤ (x &&& ty_J 7).toInt ∧ (x &&& ty_J 7).toInt ≤ 7 := by
    rw [h2, BitVec.toInt_eq_toNat_cond, BitVec.toNat_and, if_pos (by omega)]
    omega
  exact ⟨(x &&& ty_J 7).toInt, (ty_J_of _).symm, h⟩
section LWL
variable {L : Nat} {xs : Nat → Int32}
/-- what the law comes to -/
def lw_end (L : Nat) (K : Nat × Nat) : ai_O → ty_S → Prop := fun o S' => o = .inl (some (.inl (ty_J 1))) ∧ ∃ th, 3 * th ≤ L ∧ cs_I S' K th
theorem lw_loop (d : Nat) (hLr : (L : Int) ≤ 2147480000) {K : Nat × Nat} : ∀ (r : Nat) (S : ty_S) (i : Int) (th : Nat) (x5 x6 : Option Int32), (L : Int) - i ≤ 3 * r → 0 ≤ i → i ≤ 2147481000 → 3 * (th : Int) ≤ i → 3 * th ≤ L → lw_R S K th → S.2.2.2.2.2.2.1 95 = 1 →
    ty_W L xs (d + 50) 150 23 [some (.inr (.inr (some (0, 0)))), some (.inr (.inr (some (93, 0)))), some (.inr (.inr (some (94, 0)))), some (.inr (.inr (some (95, 0)))), some (.inl (ty_J i)), x5.map .inl, x6.map .inl] [] S (lw_end L K) := by
  intro r
  induction r with
  | zero =>
    intro S i th x5 x6 h1 h2 h2' h3 h4 hR h93
    have hR0 := hR
    obtain ⟨tau, s, tx, pl, m, as, hD, -⟩ := hR
    have hS := hD.1
    refine ty_iload (pc := 23) (i := 4) (ks := []) (by decide +kernel) rfl ?_
    refine ty_aload_n (pc := 25) (i := 0) (ks := []) (by decide +kernel) rfl ?_
    refine ty_lengthS (pc := 26) (ks := []) (by decide +kernel) (by first | exact hS.1 _ _ rfl | assumption) ?_
    refine ty_iconst (pc := 27) (n := 3) (ks := []) (by decide +kernel) ?_
    refine ty_isub (pc := 28) (ks := []) (by decide +kernel) ?_
    -- at 29: .if_icmp .gt 466
    refine ty_icmp_gt (pc := 29) (off := 466) (t := 495) (ks := []) (by decide +kernel) (by omega) (by omega) (fun hc => ?_) (fun hc => ?_)
    rotate_left
    · omega
    clear hc
    refine ty_iconst (pc := 495) (n := 1) (ks := []) (by decide +kernel) ?_
    -- at 496: .ireturn
    refine ty_ret_i (pc := 496) (ks := []) (ty := .boolean) (by decide +kernel) rfl (ty_fit_z (by omega)) ?_
    exact ⟨rfl, th, h4, dk_A_I hD.2.2.2.2.2.2⟩
  | succ r ih =>
    intro S i th x5 x6 h1 h2 h2' h3 h4 hR h93
    have hR0 := hR
    obtain ⟨tau, s, tx, pl, m, as, hD, -⟩ := hR
    have hS := hD.1
    refine ty_iload (pc := 23) (i := 4) (ks := []) (by decide +kernel) rfl ?_
    refine ty_aload_n (pc := 25) (i := 0) (ks := []) (by decide +kernel) rfl ?_
    refine ty_lengthS (pc := 26) (ks := []) (by decide +kernel) (by first | exact hS.1 _ _ rfl | assumption) ?_
    refine ty_iconst (pc := 27) (n := 3) (ks := []) (by decide +kernel) ?_
    refine ty_isub (pc := 28) (ks := []) (by decide +kernel) ?_
    -- at 29: .if_icmp .gt 466
    refine ty_icmp_gt (pc := 29) (off := 466) (t := 495) (ks := []) (by decide +kernel) (by omega) (by omega) (fun hc => ?_) (fun hc => ?_)
    · refine ty_iconst (pc := 495) (n := 1) (ks := []) (by decide +kernel) ?_
      -- at 496: .ireturn
      refine ty_ret_i (pc := 496) (ks := []) (ty := .boolean) (by decide +kernel) rfl (ty_fit_z (by omega)) ?_
      exact ⟨rfl, th, h4, dk_A_I hD.2.2.2.2.2.2⟩
    have hi := hc
    clear hc
    have cont : ∀ (S' : ty_S) (th' : Nat) (x5 x6 : Option Int32), th' ≤ th + 1 → lw_R S' K th' → S'.2.2.2.2.2.2.1 95 = 1 → ty_W L xs (d + 50) 150 489 [some (.inr (.inr (some (0, 0)))), some (.inr (.inr (some (93, 0)))), some (.inr (.inr (some (94, 0)))), some (.inr (.inr (some (95, 0)))), some (.inl (ty_J i)), x5.map .inl, x6.map .inl] [] S' (lw_end L K) := by
      intro S' th' x5 x6 k1 k2 k3
      refine ty_iinc (pc := 489) (i := 4) (n := 3) (ks := []) (ls' := [_, _, _, _, _, _, _]) (by decide +kernel) rfl rfl ?_
      refine ty_goto (pc := 492) (off := (-469)) (t := 23) (ks := []) (by decide +kernel) ?_
      -- at 23: .iload 4
      exact ih S' (i + 3) th' x5 x6 (by omega) (by omega) (by omega) (by omega) (by omega) k2 k3
    have hir : 0 ≤ i ∧ i + 2 < L ∧ (L : Int) ≤ 2147480000 := by omega
    obtain ⟨c, hc7, hcr⟩ := lw_and (xs i.toNat)
    refine ty_aload_n (pc := 32) (i := 0) (ks := []) (by decide +kernel) rfl ?_
    refine ty_iload (pc := 33) (i := 4) (ks := []) (by decide +kernel) rfl ?_
    refine ty_sload (pc := 35) (ks := []) (by decide +kernel) (by first | exact hS.1 _ _ rfl | assumption) (by omega) ?_
    refine ty_bipush (pc := 36) (n := 7) (ks := []) (by decide +kernel) (by omega) ?_
    refine ty_pure (pc := 38) (ins := .iand) (ks := []) (by decide +kernel) rfl ?_
    -- at 39: .tableswitch 450 0 7 #[45, 133, 177, 213, 257, 301, 369, 425]
    have hc8 : (fun x y : Int32 => x &&& y) (xs i.toNat) (ty_J 7) = ty_J c := hc7
    rw [hc8]
    clear hc8 hc7
    rcases (show c = 0 ∨ c = 1 ∨ c = 2 ∨ c = 3 ∨ c = 4 ∨ c = 5 ∨ c = 6 ∨ c = 7 by omega) with rfl | rfl | rfl | rfl | rfl | rfl | rfl | rfl
    · refine ty_jmp (pc := 39) (ins := .tableswitch 450 0 7 #[45, 133, 177, 213, 257, 301, 369, 425]) (ks := [489, 84, 172, 216, 252, 296, 340, 408, 464]) (pc' := 84) (st' := []) (by decide +kernel) (by rfl) ?_
      exact lw_o_type d hR0 h93 hir cont
    · refine ty_jmp (pc := 39) (ins := .tableswitch 450 0 7 #[45, 133, 177, 213, 257, 301, 369, 425]) (ks := [489, 84, 172, 216, 252, 296, 340, 408, 464]) (pc' := 172) (st' := []) (by decide +kernel) (by rfl) ?_
      exact lw_o_add d hR0 h93 hir cont
    · refine ty_jmp (pc := 39) (ins := .tableswitch 450 0 7 #[45, 133, 177, 213, 257, 301, 369, 425]) (ks := [489, 84, 172, 216, 252, 296, 340, 408, 464]) (pc' := 216) (st' := []) (by decide +kernel) (by rfl) ?_
      exact lw_o_drop d hR0 h93 hir cont
    · refine ty_jmp (pc := 39) (ins := .tableswitch 450 0 7 #[45, 133, 177, 213, 257, 301, 369, 425]) (ks := [489, 84, 172, 216, 252, 296, 340, 408, 464]) (pc' := 252) (st' := []) (by decide +kernel) (by rfl) ?_
      exact lw_o_ask d hR0 h93 hir cont
    · refine ty_jmp (pc := 39) (ins := .tableswitch 450 0 7 #[45, 133, 177, 213, 257, 301, 369, 425]) (ks := [489, 84, 172, 216, 252, 296, 340, 408, 464]) (pc' := 296) (st' := []) (by decide +kernel) (by rfl) ?_
      exact lw_o_next d hR0 h93 hir cont
    · refine ty_jmp (pc := 39) (ins := .tableswitch 450 0 7 #[45, 133, 177, 213, 257, 301, 369, 425]) (ks := [489, 84, 172, 216, 252, 296, 340, 408, 464]) (pc' := 340) (st' := []) (by decide +kernel) (by rfl) ?_
      exact lw_o_letter d hR0 h93 hir cont
    · refine ty_jmp (pc := 39) (ins := .tableswitch 450 0 7 #[45, 133, 177, 213, 257, 301, 369, 425]) (ks := [489, 84, 172, 216, 252, 296, 340, 408, 464]) (pc' := 408) (st' := []) (by decide +kernel) (by rfl) ?_
      exact lw_o_sleeping d hR0 h93 hir cont
    · refine ty_jmp (pc := 39) (ins := .tableswitch 450 0 7 #[45, 133, 177, 213, 257, 301, 369, 425]) (ks := [489, 84, 172, 216, 252, 296, 340, 408, 464]) (pc' := 464) (st' := []) (by decide +kernel) (by rfl) ?_
      exact lw_o_count d hR0 h93 hir cont
end LWL
