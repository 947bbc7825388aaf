/-! A text is typed. -/
theorem dk_and (x : Int32) : 0 ≤ (x &&& ty_J 255).toInt ∧ (x &&& ty_J 255).toInt ≤ 255 := by
  have h2 : (x &&& ty_J 255).toInt = (x.toBitVec &&& 255#32).toInt := rfl
  have h3 : x.toBitVec.toNat &&& (255#32).toNat ≤ 255 := Nat.and_le_right
  rw [h2, BitVec.toInt_eq_toNat_cond, BitVec.toNat_and, if_pos (by omega)]
  omega
/-- the byte at shift k -/
def dk_b (e : Int64) (k : Int) : Int32 := ((e.toUInt64 >>> ((ty_J k).toInt64.toUInt64 &&& Int64.toUInt64 63)).toInt64).toInt32 &&& ty_J 255
def dk_by (e : Int64) (k : Int) : Int := (dk_b e k).toInt
theorem dk_by_J {e : Int64} {k : Int} : dk_b e k = ty_J (dk_by e k) := (ty_J_of _).symm
theorem dk_by_r {e : Int64} {k : Int} : 0 ≤ dk_by e k ∧ dk_by e k ≤ 255 := dk_and _
/-- the bytes, the last r of them -/
def dk_bl (e : Int64) : Nat → List Int
  | 0 => []
  | r + 1 => dk_by e (8 * r) :: dk_bl e r
def dk_nzl (l : List Int) : List Int := l.filter (fun b => decide (b ≠ 0))
def dk_bad (l : List Int) : Prop := ∃ b ∈ l, b ≠ 0 ∧ (b < 33 ∨ 126 < b)
theorem dk_nzl_cons {b : Int} {l : List Int} : dk_nzl (b :: l) = if b = 0 then dk_nzl l else b :: dk_nzl l := by
  unfold dk_nzl
  rw [List.filter_cons]
  by_cases e : b = 0
  · rw [if_pos e, if_neg (by simpa using e)]
  · rw [if_neg e, if_pos (by simpa using e)]
theorem dk_bad_cons {b : Int} {l : List Int} : dk_bad (b :: l) ↔ (b ≠ 0 ∧ (b < 33 ∨ 126 < b)) ∨ dk_bad l := by
  constructor
  · rintro ⟨c, hc, h⟩
    rcases List.mem_cons.mp hc with z | z
    · rw [z] at h; exact .inl h
    · exact .inr ⟨c, z, h⟩
  · rintro (h | ⟨c, hc, h⟩)
    · exact ⟨b, List.mem_cons_self, h⟩
    · exact ⟨c, List.mem_cons_of_mem _ hc, h⟩
def dk_ts (S : ty_S) (n : Int) (f : Int → Int) : ty_S := ty_sI (ty_mA S (10, 0) f) (93, 0) 1 n
theorem dk_ts_put {S : ty_S} {n c : Int} {f : Int → Int} : ty_sI (ty_sA (dk_ts S n f) (10, 0) n c) (93, 0) 1 (n + 1) = dk_ts S (n + 1) (mo_up f n c) := by
  refine Prod.ext ?_ (Prod.ext rfl (Prod.ext ?_ rfl))
  · funext b j
    show (if b = (93, 0) ∧ j = 1 then n + 1 else if b = (93, 0) ∧ j = 1 then n else S.1 b j) = if b = (93, 0) ∧ j = 1 then n + 1 else S.1 b j
    split <;> rfl
  · funext b j
    show (if b = (10, 0) ∧ j = n then c else (if b = (10, 0) then f else S.2.2.1 b) j) = (if b = (10, 0) then mo_up f n c else S.2.2.1 b) j
    by_cases e : b = (10, 0)
    · subst e
      simp [mo_up]
    · rw [if_neg (fun w => e w.1), if_neg e, if_neg e]
section DKY
variable {L : Nat} {xs : Nat → Int32} {S : ty_S} {K : Nat × Nat} {th : Nat} {tau : dk_T} {s : Nat → Nat} {tx : List Int} {pl : Int} {m : Nat} {as : Option mo_M}
theorem dk_type (d : Nat) (hR : dk_R S K th tau s tx pl m as) (e : Int64) : ty_C L xs (d + 1) 16 [.inr (.inr (some (93, 0))), .inr (.inl e)] S (fun o S' => dk_W S S' ∧ dk_P S' tau s m = dk_P S tau s m ∧ ((dk_bad (dk_bl e 8) ∧ o = dk_o (.inl 0) ∧ dk_R S' K (th + 1) tau s tx pl m as) ∨ (¬ dk_bad (dk_bl e 8) ∧ 48 < tx.length + (dk_nzl (dk_bl e 8)).length ∧ o = dk_o (.inl 1) ∧ dk_R S' K (th + 1) tau s tx pl m as) ∨
    (¬ dk_bad (dk_bl e 8) ∧ tx.length + (dk_nzl (dk_bl e 8)).length ≤ 48 ∧ o = dk_o (.inr ((tx.length + (dk_nzl (dk_bl e 8)).length : Nat) : Int)) ∧ dk_R S' K th tau s (tx ++ dk_nzl (dk_bl e 8)) pl m as))) := by
  have hR0 := hR
  obtain ⟨hS, hU, hL, hX, hpl, hask, hA⟩ := hR
  have x1 := hX.1
  have x2 := hX.2.1
  have hle : ∀ r, (dk_nzl (dk_bl e r)).length ≤ r := fun r => by
    induction r with
    | zero => exact Nat.le_refl _
    | succ r ih =>
      show (dk_nzl (dk_by e (8 * r) :: dk_bl e r)).length ≤ r + 1
      rw [dk_nzl_cons]
      split
      · omega
      · rw [List.length_cons]; omega
  -- the second loop
  have loop2 : ∀ (r : Nat) (c : Int) (x5 : Option ai_V) (hx5 : x5 = none ∨ ∃ w, x5 = some (.inl w)) (ws : List Int) (f : Int → Int), r ≤ 8 → mo_at f 0 ws → ws.length + (dk_nzl (dk_bl e r)).length ≤ 48 → (∀ i, 0 ≤ i → i < 48 → 0 ≤ f i ∧ f i ≤ 65535) → ty_W L xs d 16 91 [some (.inr (.inr (some (93, 0)))), some (.inr (.inl e)), none, some (.inl (ty_J c)), some (.inl (ty_J (8 * (r : Int) - 8))), x5] [] (dk_ts S ws.length f) (fun o S' => o = .inl (some (.inl (ty_J ((ws ++ dk_nzl (dk_bl e r)).length : Int)))) ∧ ∃ f', S' = dk_ts S (ws ++ dk_nzl (dk_bl e r)).length f' ∧ mo_at f' 0 (ws ++ dk_nzl (dk_bl e r)) ∧ ∀ i, 0 ≤ i → i < 48 → 0 ≤ f' i ∧ f' i ≤ 65535) := by
    intro r
    induction r with
    | zero =>
      intro c x5 hx5 ws f hr hat hlen hch
      have hS : ty_st (dk_ts S ws.length f) := hS
      have eL : (dk_ts S ws.length f).1 (93, 0) 1 = ws.length := ty_sI_at
      refine ty_iload (pc := 91) (i := 4) (ks := []) (by decide +kernel) rfl ?_
      -- at 93: .ifCond .lt 47
      refine ty_if_lt (pc := 93) (off := 47) (t := 140) (ks := []) (by decide +kernel) (by omega) (fun hc => ?_) (fun hc => ?_)
      · refine ty_aload_n (pc := 140) (i := 0) (ks := []) (by decide +kernel) rfl ?_
        refine ty_getI (pc := 141) (idx := 13) (ci := 0) (f := 1) (by decide +kernel) (by first | rfl | assumption) rfl (by first | exact hS.1 _ _ rfl | assumption) (fun v hv => ?_)
        subst hv
        -- at 144: .ireturn
        rw [eL]
        refine ty_ret_i (pc := 144) (ks := []) (ty := .int) (by decide +kernel) rfl rfl ?_
        have e0 : ws ++ dk_nzl (dk_bl e 0) = ws := List.append_nil ws
        rw [e0]
        exact ⟨rfl, f, rfl, hat, hch⟩
      · omega
    | succ r ih =>
      intro c x5 hx5 ws f hr hat hlen hch
      have hS : ty_st (dk_ts S ws.length f) := hS
      have eL : (dk_ts S ws.length f).1 (93, 0) 1 = ws.length := ty_sI_at
      have hput := fun c => dk_ts_put (S := S) (n := ws.length) (c := c) (f := f)
      have hb := dk_by_r (e := e) (k := 8 * (r : Int))
      have ebl : dk_bl e (r + 1) = dk_by e (8 * r) :: dk_bl e r := rfl
      rw [ebl, dk_nzl_cons] at hlen ⊢
      rw [show 8 * ((r + 1 : Nat) : Int) - 8 = 8 * (r : Int) by omega]
      generalize hT : dk_ts S ws.length f = T at hS eL hput
      refine ty_iload (pc := 91) (i := 4) (ks := []) (by decide +kernel) rfl ?_
      -- at 93: .ifCond .lt 47
      refine ty_if_lt (pc := 93) (off := 47) (t := 140) (ks := []) (by decide +kernel) (by omega) (fun hc => ?_) (fun hc => ?_)
      · omega
      clear hc
      rcases hx5 with rfl | ⟨w, rfl⟩
      · refine ty_lload_n (pc := 96) (i := 1) (ks := []) (by decide +kernel) rfl ?_
        refine ty_iload (pc := 97) (i := 4) (ks := []) (by decide +kernel) rfl ?_
        refine ty_pure (pc := 99) (ins := .lushr) (ks := []) (by decide +kernel) rfl ?_
        refine ty_pure (pc := 100) (ins := .l2i) (ks := []) (by decide +kernel) rfl ?_
        refine ty_sipush (pc := 101) (n := 255) (ks := []) (by decide +kernel) (by omega) ?_
        refine ty_pure (pc := 104) (ins := .iand) (ks := []) (by decide +kernel) rfl ?_
        -- at 105: .istore 5
        show ty_W L xs d _ _ _ (.inl (dk_b e (8 * r)) :: []) _ _
        rw [dk_by_J]
        refine ty_istore (pc := 105) (i := 5) (ks := []) (ls' := [_, _, _, _, _, _]) (by decide +kernel) rfl ?_
        refine ty_iload (pc := 107) (i := 5) (ks := []) (by decide +kernel) rfl ?_
        -- at 109: .ifCond .eq 25
        refine ty_if_eq (pc := 109) (off := 25) (t := 134) (ks := []) (by decide +kernel) (by omega) (fun hc => ?_) (fun hc => ?_)
        · rw [if_pos hc] at hlen ⊢
          refine ty_iinc (pc := 134) (i := 4) (n := (-8)) (ks := []) (ls' := [_, _, _, _, _, _]) (by decide +kernel) rfl rfl ?_
          refine ty_goto (pc := 137) (off := (-46)) (t := 91) (ks := []) (by decide +kernel) ?_
          -- at 91: .iload 4
          rw [show 8 * (r : Int) + -8 = 8 * (r : Int) - 8 by omega, ← hT]
          exact ih c _ (.inr ⟨_, rfl⟩) ws f (by omega) hat hlen hch
        · rw [if_neg hc] at hlen ⊢
          rw [List.length_cons] at hlen
          have hlr : 0 ≤ T.1 (93, 0) 1 ∧ T.1 (93, 0) 1 < 48 := by rw [eL]; omega
          refine ty_aload_n (pc := 112) (i := 0) (ks := []) (by decide +kernel) rfl ?_
          refine ty_getS (b := (10, 0)) (pc := 113) (idx := 9) (ci := 0) (f := 0) (by decide +kernel) (by first | rfl | assumption) rfl (by first | exact hS.1 _ _ rfl | assumption) (by first | exact hS.2.2 _ _ _ _ rfl | assumption) ?_
          refine ty_aload_n (pc := 116) (i := 0) (ks := []) (by decide +kernel) rfl ?_
          refine ty_getI (pc := 117) (idx := 13) (ci := 0) (f := 1) (by decide +kernel) (by first | rfl | assumption) rfl (by first | exact hS.1 _ _ rfl | assumption) (fun v hv => ?_)
          subst hv
          refine ty_iload (pc := 120) (i := 5) (ks := []) (by decide +kernel) rfl ?_
          refine ty_i2c_ (pc := 122) (ks := []) (by decide +kernel) (by omega) ?_
          refine ty_castore (pc := 123) (ks := []) (by decide +kernel) (by first | rfl | assumption) (by rfl) (by first | exact hS.1 _ _ rfl | assumption) (by first | exact hS.2.1 _ _ _ rfl | assumption) (by omega) (by omega) ?_
          refine ty_aload_n (pc := 124) (i := 0) (ks := []) (by decide +kernel) rfl ?_
          refine ty_dup (pc := 125) (ks := []) (by decide +kernel) rfl ?_
          refine ty_getI (pc := 126) (idx := 13) (ci := 0) (f := 1) (by decide +kernel) (by first | rfl | assumption) rfl (by first | exact hS.1 _ _ rfl | assumption) (fun v hv => ?_)
          first | simp (decide := true) only [ty_sI, ty_sR, ty_sA, ty_sQ, ty_mA, ty_mQ, ↓reduceIte, false_and, and_false, true_and, and_true, and_self, hne] at hv | simp (decide := true) only [ty_sI, ty_sR, ty_sA, ty_sQ, ty_mA, ty_mQ, ↓reduceIte, false_and, and_false, true_and, and_true, and_self] at hv | skip
          subst hv
          refine ty_iconst (pc := 129) (n := 1) (ks := []) (by decide +kernel) ?_
          refine ty_iadd (pc := 130) (ks := []) (by decide +kernel) ?_
          refine ty_putI (pc := 131) (idx := 13) (ci := 0) (f := 1) (by decide +kernel) (by first | rfl | assumption) rfl rfl (by first | exact hS.1 _ _ rfl | assumption) ?_
          refine ty_iinc (pc := 134) (i := 4) (n := (-8)) (ks := []) (ls' := [_, _, _, _, _, _]) (by decide +kernel) rfl rfl ?_
          refine ty_goto (pc := 137) (off := (-46)) (t := 91) (ks := []) (by decide +kernel) ?_
          -- at 91: .iload 4
          rw [eL, hput, show 8 * (r : Int) + -8 = 8 * (r : Int) - 8 by omega]
          have := ih c (some (.inl (ty_J (dk_by e (8 * r))))) (.inr ⟨_, rfl⟩) (ws ++ [dk_by e (8 * r)]) (mo_up f ws.length (dk_by e (8 * r))) (by omega) (mo_at_app.mpr ⟨mo_at_eq (fun j h0 h1 => if_neg (by omega)) hat, ⟨by show mo_up f ws.length _ (0 + ws.length) = _; exact if_pos (by omega), trivial⟩⟩) (by rw [List.length_append, List.length_singleton]; omega) (fun i i0 i1 => by
            unfold mo_up
            split
            · omega
            · exact hch i i0 i1)
          have elen : ((ws ++ [dk_by e (8 * r)]).length : Int) = (ws.length : Int) + 1 := by
            rw [List.length_append, List.length_singleton]
            omega
          rw [List.append_assoc, elen] at this
          exact this
      · refine ty_lload_n (pc := 96) (i := 1) (ks := []) (by decide +kernel) rfl ?_
        refine ty_iload (pc := 97) (i := 4) (ks := []) (by decide +kernel) rfl ?_
        refine ty_pure (pc := 99) (ins := .lushr) (ks := []) (by decide +kernel) rfl ?_
        refine ty_pure (pc := 100) (ins := .l2i) (ks := []) (by decide +kernel) rfl ?_
        refine ty_sipush (pc := 101) (n := 255) (ks := []) (by decide +kernel) (by omega) ?_
        refine ty_pure (pc := 104) (ins := .iand) (ks := []) (by decide +kernel) rfl ?_
        -- at 105: .istore 5
        show ty_W L xs d _ _ _ (.inl (dk_b e (8 * r)) :: []) _ _
        rw [dk_by_J]
        refine ty_istore (pc := 105) (i := 5) (ks := []) (ls' := [_, _, _, _, _, _]) (by decide +kernel) rfl ?_
        refine ty_iload (pc := 107) (i := 5) (ks := []) (by decide +kernel) rfl ?_
        -- at 109: .ifCond .eq 25
        refine ty_if_eq (pc := 109) (off := 25) (t := 134) (ks := []) (by decide +kernel) (by omega) (fun hc => ?_) (fun hc => ?_)
        · rw [if_pos hc] at hlen ⊢
          refine ty_iinc (pc := 134) (i := 4) (n := (-8)) (ks := []) (ls' := [_, _, _, _, _, _]) (by decide +kernel) rfl rfl ?_
          refine ty_goto (pc := 137) (off := (-46)) (t := 91) (ks := []) (by decide +kernel) ?_
          -- at 91: .iload 4
          rw [show 8 * (r : Int) + -8 = 8 * (r : Int) - 8 by omega, ← hT]
          exact ih c _ (.inr ⟨_, rfl⟩) ws f (by omega) hat hlen hch
        · rw [if_neg hc] at hlen ⊢
          rw [List.length_cons] at hlen
          have hlr : 0 ≤ T.1 (93, 0) 1 ∧ T.1 (93, 0) 1 < 48 := by rw [eL]; omega
          refine ty_aload_n (pc := 112) (i := 0) (ks := []) (by decide +kernel) rfl ?_
          refine ty_getS (b := (10, 0)) (pc := 113) (idx := 9) (ci := 0) (f := 0) (by decide +kernel) (by first | rfl | assumption) rfl (by first | exact hS.1 _ _ rfl | assumption) (by first | exact hS.2.2 _ _ _ _ rfl | assumption) ?_
          refine ty_aload_n (pc := 116) (i := 0) (ks := []) (by decide +kernel) rfl ?_
          refine ty_getI (pc := 117) (idx := 13) (ci := 0) (f := 1) (by decide +kernel) (by first | rfl | assumption) rfl (by first | exact hS.1 _ _ rfl | assumption) (fun v hv => ?_)
          subst hv
          refine ty_iload (pc := 120) (i := 5) (ks := []) (by decide +kernel) rfl ?_
          refine ty_i2c_ (pc := 122) (ks := []) (by decide +kernel) (by omega) ?_
          refine ty_castore (pc := 123) (ks := []) (by decide +kernel) (by first | rfl | assumption) (by rfl) (by first | exact hS.1 _ _ rfl | assumption) (by first | exact hS.2.1 _ _ _ rfl | assumption) (by omega) (by omega) ?_
          refine ty_aload_n (pc := 124) (i := 0) (ks := []) (by decide +kernel) rfl ?_
          refine ty_dup (pc := 125) (ks := []) (by decide +kernel) rfl ?_
          refine ty_getI (pc := 126) (idx := 13) (ci := 0) (f := 1) (by decide +kernel) (by first | rfl | assumption) rfl (by first | exact hS.1 _ _ rfl | assumption) (fun v hv => ?_)
          first | simp (decide := true) only [ty_sI, ty_sR, ty_sA, ty_sQ, ty_mA, ty_mQ, ↓reduceIte, false_and, and_false, true_and, and_true, and_self, hne] at hv | simp (decide := true) only [ty_sI, ty_sR, ty_sA, ty_sQ, ty_mA, ty_mQ, ↓reduceIte, false_and, and_false, true_and, and_true, and_self] at hv | skip
          subst hv
          refine ty_iconst (pc := 129) (n := 1) (ks := []) (by decide +kernel) ?_
          refine ty_iadd (pc := 130) (ks := []) (by decide +kernel) ?_
          refine ty_putI (pc := 131) (idx := 13) (ci := 0) (f := 1) (by decide +kernel) (by first | rfl | assumption) rfl rfl (by first | exact hS.1 _ _ rfl | assumption) ?_
          refine ty_iinc (pc := 134) (i := 4) (n := (-8)) (ks := []) (ls' := [_, _, _, _, _, _]) (by decide +kernel) rfl rfl ?_
          refine ty_goto (pc := 137) (off := (-46)) (t := 91) (ks := []) (by decide +kernel) ?_
          -- at 91: .iload 4
          rw [eL, hput, show 8 * (r : Int) + -8 = 8 * (r : Int) - 8 by omega]
          have := ih c (some (.inl (ty_J (dk_by e (8 * r))))) (.inr ⟨_, rfl⟩) (ws ++ [dk_by e (8 * r)]) (mo_up f ws.length (dk_by e (8 * r))) (by omega) (mo_at_app.mpr ⟨mo_at_eq (fun j h0 h1 => if_neg (by omega)) hat, ⟨by show mo_up f ws.length _ (0 + ws.length) = _; exact if_pos (by omega), trivial⟩⟩) (by rw [List.length_append, List.length_singleton]; omega) (fun i i0 i1 => by
            unfold mo_up
            split
            · omega
            · exact hch i i0 i1)
          have elen : ((ws ++ [dk_by e (8 * r)]).length : Int) = (ws.length : Int) + 1 := by
            rw [List.length_append, List.length_singleton]
            omega
          rw [List.append_assoc, elen] at this
          exact this
  -- between the loops
  have mid : ∀ (c : Int) (x5 : Option ai_V), (x5 = none ∨ ∃ w, x5 = some (.inl w)) → ¬ dk_bad (dk_bl e 8) → c = (dk_nzl (dk_bl e 8)).length → ty_W L xs d 16 68 [some (.inr (.inr (some (93, 0)))), some (.inr (.inl e)), none, some (.inl (ty_J c)), some (.inl (ty_J (-8))), x5] [] S (fun o S' => dk_W S S' ∧ dk_P S' tau s m = dk_P S tau s m ∧ ((dk_bad (dk_bl e 8) ∧ o = dk_o (.inl 0) ∧ dk_R S' K (th + 1) tau s tx pl m as) ∨ (¬ dk_bad (dk_bl e 8) ∧ 48 < tx.length + (dk_nzl (dk_bl e 8)).length ∧ o = dk_o (.inl 1) ∧ dk_R S' K (th + 1) tau s tx pl m as) ∨
    (¬ dk_bad (dk_bl e 8) ∧ tx.length + (dk_nzl (dk_bl e 8)).length ≤ 48 ∧ o = dk_o (.inr ((tx.length + (dk_nzl (dk_bl e 8)).length : Nat) : Int)) ∧ dk_R S' K th tau s (tx ++ dk_nzl (dk_bl e 8)) pl m as))) := by
    intro c x5 hx5 hbad hc0
    have h8 := hle 8
    refine ty_aload_n (pc := 68) (i := 0) (ks := []) (by decide +kernel) rfl ?_
    refine ty_getI (pc := 69) (idx := 13) (ci := 0) (f := 1) (by decide +kernel) (by first | rfl | assumption) rfl (by first | exact hS.1 _ _ rfl | assumption) (fun v hv => ?_)
    subst hv
    refine ty_iload_n (pc := 72) (i := 3) (ks := []) (by decide +kernel) rfl ?_
    refine ty_iadd (pc := 73) (ks := []) (by decide +kernel) ?_
    refine ty_bipush (pc := 74) (n := 48) (ks := []) (by decide +kernel) (by omega) ?_
    -- at 76: .if_icmp .le 11
    rw [x1]
    refine ty_icmp_le (pc := 76) (off := 11) (t := 87) (ks := []) (by decide +kernel) (by omega) (by omega) (fun hc => ?_) (fun hc => ?_)
    · have hst : dk_ts S tx.length (S.2.2.1 (10, 0)) = S := by
        unfold dk_ts
        rw [ty_mA_self]
        exact ty_sI_self x1
      have := loop2 8 c x5 hx5 tx (S.2.2.1 (10, 0)) (Nat.le_refl _) hX.2.2.2.1 (by omega) hX.2.2.2.2
      rw [hst, show (8 : Int) * ((8 : Nat) : Int) - 8 = 56 by decide] at this
      have go : ty_W L xs d 16 87 [some (.inr (.inr (some (93, 0)))), some (.inr (.inl e)), none, some (.inl (ty_J c)), some (.inl (ty_J (-8))), x5] [] S (fun o S' => o = .inl (some (.inl (ty_J ((tx ++ dk_nzl (dk_bl e 8)).length : Int)))) ∧ ∃ f', S' = dk_ts S (tx ++ dk_nzl (dk_bl e 8)).length f' ∧ mo_at f' 0 (tx ++ dk_nzl (dk_bl e 8)) ∧ ∀ i, 0 ≤ i → i < 48 → 0 ≤ f' i ∧ f' i ≤ 65535) := by
        rcases hx5 with rfl | ⟨w, rfl⟩
        · refine ty_bipush (pc := 87) (n := 56) (ks := []) (by decide +kernel) (by omega) ?_
          refine ty_istore (pc := 89) (i := 4) (ks := []) (ls' := [_, _, _, _, _, _]) (by decide +kernel) rfl ?_
          -- at 91: .iload 4
          exact this
        · refine ty_bipush (pc := 87) (n := 56) (ks := []) (by decide +kernel) (by omega) ?_
          refine ty_istore (pc := 89) (i := 4) (ks := []) (ls' := [_, _, _, _, _, _]) (by decide +kernel) rfl ?_
          -- at 91: .iload 4
          exact this
      refine go.mono ?_
      rintro o S' ⟨rfl, f', rfl, hat', hch'⟩
      have hall : ∀ c ∈ tx ++ dk_nzl (dk_bl e 8), 33 ≤ c ∧ c ≤ 126 := fun c hcm => by
        rcases List.mem_append.mp hcm with z | z
        · exact hX.2.2.1 c z
        · unfold dk_nzl at z
          obtain ⟨z1, z2⟩ := List.mem_filter.mp z
          have z2 : c ≠ 0 := by simpa using z2
          by_cases e1 : c < 33 ∨ 126 < c
          · exact absurd ⟨c, z1, z2, e1⟩ hbad
          · omega
      have nI : ∀ b j, ¬ (b = (93, 0) ∧ j = 1) → (dk_ts S (tx ++ dk_nzl (dk_bl e 8)).length f').1 b j = S.1 b j := fun b j hb => ty_sI_ne hb
      have nA : ∀ b, b ≠ (10, 0) → (dk_ts S (tx ++ dk_nzl (dk_bl e 8)).length f').2.2.1 b = S.2.2.1 b := fun b hb => if_neg hb
      have hAd : ∀ b : ai_A, b.1 ∈ dk_sa → (dk_ts S (tx ++ dk_nzl (dk_bl e 8)).length f').2.2.1 b = S.2.2.1 b := fun b hb => nA b (fun w => by rw [w] at hb; exact absurd hb (by decide))
      refine ⟨⟨fun b hb h93 => ⟨fun j => ⟨nI b j (fun w => h93 (by rw [w.1])), rfl⟩, nA b (fun w => by rw [w] at hb; simp only at hb; omega), rfl, rfl⟩, rfl, fun _ _ => rfl⟩, dk_P_eq hAd, .inr (.inr ⟨hbad, by omega, by rw [List.length_append]; rfl, ?_⟩)⟩
      refine dk_R_keep hR0 ⟨hS, fun b hb j => ⟨nI b j (fun w => by rw [w.1] at hb; exact absurd hb (by decide)), rfl⟩, fun b hb => ⟨nA b (fun w => by rw [w] at hb; exact absurd hb (by decide)), rfl, rfl⟩, fun _ => Nat.le_refl _, rfl, rfl⟩ (fun b hb j => nI b j (fun w => by rw [w.1] at hb; exact absurd hb (by decide))) hAd rfl (nI _ _ (by decide)) ⟨ty_sI_at, by rw [List.length_append]; omega, hall, ?_, ?_⟩ (by rw [nI _ _ (by decide)]; exact hpl) (nI _ _ (by decide)) (fun _ _ _ _ _ h => h)
      · exact hat'
      · exact hch'
    · refine ty_throw (pc := 79) (ins := .new 74) (x := 1) (by decide +kernel) (Nat.le_of_ble_eq_true rfl) ?_
      exact ⟨dk_W_th, rfl, .inr (.inl ⟨hbad, by omega, rfl, dk_R_th hR0⟩)⟩
  -- the first loop
  have loop1 : ∀ (r : Nat) (c : Int) (x5 : Option ai_V), (x5 = none ∨ ∃ w, x5 = some (.inl w)) → r ≤ 8 → (dk_bad (dk_bl e 8) ↔ dk_bad (dk_bl e r)) → 0 ≤ c → c + (dk_nzl (dk_bl e r)).length = (dk_nzl (dk_bl e 8)).length → ty_W L xs d 16 6 [some (.inr (.inr (some (93, 0)))), some (.inr (.inl e)), none, some (.inl (ty_J c)), some (.inl (ty_J (8 * (r : Int) - 8))), x5] [] S (fun o S' => dk_W S S' ∧ dk_P S' tau s m = dk_P S tau s m ∧ ((dk_bad (dk_bl e 8) ∧ o = dk_o (.inl 0) ∧ dk_R S' K (th + 1) tau s tx pl m as) ∨ (¬ dk_bad (dk_bl e 8) ∧ 48 < tx.length + (dk_nzl (dk_bl e 8)).length ∧ o = dk_o (.inl 1) ∧ dk_R S' K (th + 1) tau s tx pl m as) ∨
    (¬ dk_bad (dk_bl e 8) ∧ tx.length + (dk_nzl (dk_bl e 8)).length ≤ 48 ∧ o = dk_o (.inr ((tx.length + (dk_nzl (dk_bl e 8)).length : Nat) : Int)) ∧ dk_R S' K th tau s (tx ++ dk_nzl (dk_bl e 8)) pl m as))) := by
    intro r
    induction r with
    | zero =>
      intro c x5 hx5 hr hbad h0 hlen
      refine ty_iload (pc := 6) (i := 4) (ks := []) (by decide +kernel) rfl ?_
      -- at 8: .ifCond .lt 60
      refine ty_if_lt (pc := 8) (off := 60) (t := 68) (ks := []) (by decide +kernel) (by omega) (fun hc => ?_) (fun hc => ?_)
      · exact mid c x5 hx5 (fun z => by obtain ⟨b, hb, -⟩ := hbad.mp z; exact (nomatch hb)) (by rw [← hlen]; show c = c + ((0 : Nat) : Int); omega)
      · omega
    | succ r ih =>
      intro c x5 hx5 hr hbad h0 hlen
      have hb := dk_by_r (e := e) (k := 8 * (r : Int))
      have ebl : dk_bl e (r + 1) = dk_by e (8 * r) :: dk_bl e r := rfl
      rw [ebl] at hbad hlen
      rw [dk_nzl_cons] at hlen
      rw [dk_bad_cons] at hbad
      have h8 := hle 8
      rw [show 8 * ((r + 1 : Nat) : Int) - 8 = 8 * (r : Int) by omega]
      -- the byte is there
      have body : ty_W L xs d 16 22 [some (.inr (.inr (some (93, 0)))), some (.inr (.inl e)), none, some (.inl (ty_J c)), some (.inl (ty_J (8 * (r : Int)))), some (.inl (ty_J (dk_by e (8 * r))))] [] S (fun o S' => dk_W S S' ∧ dk_P S' tau s m = dk_P S tau s m ∧ ((dk_bad (dk_bl e 8) ∧ o = dk_o (.inl 0) ∧ dk_R S' K (th + 1) tau s tx pl m as) ∨ (¬ dk_bad (dk_bl e 8) ∧ 48 < tx.length + (dk_nzl (dk_bl e 8)).length ∧ o = dk_o (.inl 1) ∧ dk_R S' K (th + 1) tau s tx pl m as) ∨
    (¬ dk_bad (dk_bl e 8) ∧ tx.length + (dk_nzl (dk_bl e 8)).length ≤ 48 ∧ o = dk_o (.inr ((tx.length + (dk_nzl (dk_bl e 8)).length : Nat) : Int)) ∧ dk_R S' K th tau s (tx ++ dk_nzl (dk_bl e 8)) pl m as))) := by
        have good : ¬ (dk_by e (8 * r) ≠ 0 ∧ (dk_by e (8 * r) < 33 ∨ 126 < dk_by e (8 * r))) → ty_W L xs d 16 49 [some (.inr (.inr (some (93, 0)))), some (.inr (.inl e)), none, some (.inl (ty_J c)), some (.inl (ty_J (8 * (r : Int)))), some (.inl (ty_J (dk_by e (8 * r))))] [] S (fun o S' => dk_W S S' ∧ dk_P S' tau s m = dk_P S tau s m ∧ ((dk_bad (dk_bl e 8) ∧ o = dk_o (.inl 0) ∧ dk_R S' K (th + 1) tau s tx pl m as) ∨ (¬ dk_bad (dk_bl e 8) ∧ 48 < tx.length + (dk_nzl (dk_bl e 8)).length ∧ o = dk_o (.inl 1) ∧ dk_R S' K (th + 1) tau s tx pl m as) ∨
    (¬ dk_bad (dk_bl e 8) ∧ tx.length + (dk_nzl (dk_bl e 8)).length ≤ 48 ∧ o = dk_o (.inr ((tx.length + (dk_nzl (dk_bl e 8)).length : Nat) : Int)) ∧ dk_R S' K th tau s (tx ++ dk_nzl (dk_bl e 8)) pl m as))) := by
          intro hg
          have hb2 : dk_bad (dk_bl e 8) ↔ dk_bad (dk_bl e r) := hbad.trans ⟨fun z => z.resolve_left hg, fun z => .inr z⟩
          refine ty_iload_n (pc := 49) (i := 3) (ks := []) (by decide +kernel) rfl ?_
          refine ty_iload (pc := 50) (i := 5) (ks := []) (by decide +kernel) rfl ?_
          -- at 52: .ifCond .ne 7
          refine ty_if_ne (pc := 52) (off := 7) (t := 59) (ks := []) (by decide +kernel) (by omega) (fun hc => ?_) (fun hc => ?_)
          · rw [if_neg hc] at hlen
            rw [List.length_cons] at hlen
            refine ty_iconst (pc := 59) (n := 1) (ks := []) (by decide +kernel) ?_
            refine ty_iadd (pc := 60) (ks := []) (by decide +kernel) ?_
            refine ty_istore_n (pc := 61) (i := 3) (ks := []) (ls' := [_, _, _, _, _, _]) (by decide +kernel) rfl ?_
            refine ty_iinc (pc := 62) (i := 4) (n := (-8)) (ks := []) (ls' := [_, _, _, _, _, _]) (by decide +kernel) rfl rfl ?_
            refine ty_goto (pc := 65) (off := (-59)) (t := 6) (ks := []) (by decide +kernel) ?_
            -- at 6: .iload 4
            rw [show 8 * (r : Int) + -8 = 8 * (r : Int) - 8 by omega]
            exact ih (c + 1) _ (.inr ⟨_, rfl⟩) (by omega) hb2 (by omega) (by omega)
          · rw [if_pos hc] at hlen
            refine ty_iconst (pc := 55) (n := 0) (ks := []) (by decide +kernel) ?_
            refine ty_goto (pc := 56) (off := 4) (t := 60) (ks := []) (by decide +kernel) ?_
            refine ty_iadd (pc := 60) (ks := []) (by decide +kernel) ?_
            refine ty_istore_n (pc := 61) (i := 3) (ks := []) (ls' := [_, _, _, _, _, _]) (by decide +kernel) rfl ?_
            refine ty_iinc (pc := 62) (i := 4) (n := (-8)) (ks := []) (ls' := [_, _, _, _, _, _]) (by decide +kernel) rfl rfl ?_
            refine ty_goto (pc := 65) (off := (-59)) (t := 6) (ks := []) (by decide +kernel) ?_
            -- at 6: .iload 4
            rw [show 8 * (r : Int) + -8 = 8 * (r : Int) - 8 by omega]
            have := ih c (some (.inl (ty_J (dk_by e (8 * r))))) (.inr ⟨_, rfl⟩) (by omega) hb2 h0 hlen
            rw [show c + 0 = c by omega]
            exact this
        refine ty_iload (pc := 22) (i := 5) (ks := []) (by decide +kernel) rfl ?_
        -- at 24: .ifCond .eq 25
        refine ty_if_eq (pc := 24) (off := 25) (t := 49) (ks := []) (by decide +kernel) (by omega) (fun hc => ?_) (fun hc => ?_)
        · exact good (fun z => z.1 hc)
        have hnz := hc
        refine ty_iload (pc := 27) (i := 5) (ks := []) (by decide +kernel) rfl ?_
        refine ty_bipush (pc := 29) (n := 33) (ks := []) (by decide +kernel) (by omega) ?_
        -- at 31: .if_icmp .lt 10
        refine ty_icmp_lt (pc := 31) (off := 10) (t := 41) (ks := []) (by decide +kernel) (by omega) (by omega) (fun hc => ?_) (fun hc => ?_)
        · refine ty_throw (pc := 41) (ins := .new 71) (x := 0) (by decide +kernel) (Nat.le_of_ble_eq_true rfl) ?_
          exact ⟨dk_W_th, rfl, .inl ⟨hbad.mpr (.inl ⟨hnz, .inl hc⟩), rfl, dk_R_th hR0⟩⟩
        have h33 := hc
        refine ty_iload (pc := 34) (i := 5) (ks := []) (by decide +kernel) rfl ?_
        refine ty_bipush (pc := 36) (n := 126) (ks := []) (by decide +kernel) (by omega) ?_
        -- at 38: .if_icmp .le 11
        refine ty_icmp_le (pc := 38) (off := 11) (t := 49) (ks := []) (by decide +kernel) (by omega) (by omega) (fun hc => ?_) (fun hc => ?_)
        · exact good (fun z => by omega)
        · refine ty_throw (pc := 41) (ins := .new 71) (x := 0) (by decide +kernel) (Nat.le_of_ble_eq_true rfl) ?_
          exact ⟨dk_W_th, rfl, .inl ⟨hbad.mpr (.inl ⟨hnz, .inr hc⟩), rfl, dk_R_th hR0⟩⟩
      refine ty_iload (pc := 6) (i := 4) (ks := []) (by decide +kernel) rfl ?_
      -- at 8: .ifCond .lt 60
      refine ty_if_lt (pc := 8) (off := 60) (t := 68) (ks := []) (by decide +kernel) (by omega) (fun hc => ?_) (fun hc => ?_)
      · omega
      clear hc
      rcases hx5 with rfl | ⟨w, rfl⟩
      · refine ty_lload_n (pc := 11) (i := 1) (ks := []) (by decide +kernel) rfl ?_
        refine ty_iload (pc := 12) (i := 4) (ks := []) (by decide +kernel) rfl ?_
        refine ty_pure (pc := 14) (ins := .lushr) (ks := []) (by decide +kernel) rfl ?_
        refine ty_pure (pc := 15) (ins := .l2i) (ks := []) (by decide +kernel) rfl ?_
        refine ty_sipush (pc := 16) (n := 255) (ks := []) (by decide +kernel) (by omega) ?_
        refine ty_pure (pc := 19) (ins := .iand) (ks := []) (by decide +kernel) rfl ?_
        -- at 20: .istore 5
        show ty_W L xs d _ _ _ (.inl (dk_b e (8 * r)) :: []) _ _
        rw [dk_by_J]
        refine ty_istore (pc := 20) (i := 5) (ks := []) (ls' := [_, _, _, _, _, _]) (by decide +kernel) rfl ?_
        -- at 22: .iload 5
        exact body
      · refine ty_lload_n (pc := 11) (i := 1) (ks := []) (by decide +kernel) rfl ?_
        refine ty_iload (pc := 12) (i := 4) (ks := []) (by decide +kernel) rfl ?_
        refine ty_pure (pc := 14) (ins := .lushr) (ks := []) (by decide +kernel) rfl ?_
        refine ty_pure (pc := 15) (ins := .l2i) (ks := []) (by decide +kernel) rfl ?_
        refine ty_sipush (pc := 16) (n := 255) (ks := []) (by decide +kernel) (by omega) ?_
        refine ty_pure (pc := 19) (ins := .iand) (ks := []) (by decide +kernel) rfl ?_
        -- at 20: .istore 5
        show ty_W L xs d _ _ _ (.inl (dk_b e (8 * r)) :: []) _ _
        rw [dk_by_J]
        refine ty_istore (pc := 20) (i := 5) (ks := []) (ls' := [_, _, _, _, _, _]) (by decide +kernel) rfl ?_
        -- at 22: .iload 5
        exact body
  refine ty_enter (ml := 6) (ls := [_, _, _, _, _, _]) rfl rfl (Nat.le_of_ble_eq_true rfl) ?_
  refine ty_iconst (pc := 0) (n := 0) (ks := []) (by decide +kernel) ?_
  refine ty_istore_n (pc := 1) (i := 3) (ks := []) (ls' := [_, _, _, _, _, _]) (by decide +kernel) rfl ?_
  refine ty_bipush (pc := 2) (n := 56) (ks := []) (by decide +kernel) (by omega) ?_
  refine ty_istore (pc := 4) (i := 4) (ks := []) (ls' := [_, _, _, _, _, _]) (by decide +kernel) rfl ?_
  -- at 6: .iload 4
  exact loop1 8 0 none (.inl rfl) (Nat.le_refl _) Iff.rfl (Int.le_refl _) (by omega)
end DKY
