/-! A value is written. -/
/-- the arguments from k on, r of them -/
def mo_wa (G : mo_G) (rd : Int → List Int) (v : Int) : Nat → Int → List Int
  | 0, _ => []
  | r + 1, k => (if k = 0 then 40 else 44) :: (rd (mo_g G v k) ++ mo_wa G rd v r (k + 1))
/-- f levels -/
def mo_wr (G : mo_G) (bd : Int → Int) : Nat → Int → List Int
  | 0, _ => []
  | f + 1, t => if mo_val G bd t < 0 then [95] else mo_l G (mo_val G bd t) :: (mo_wa G (mo_wr G bd f) (mo_val G bd t) (mo_a G (mo_val G bd t)).toNat 0 ++ (if 0 < mo_a G (mo_val G bd t) then [41] else []))
/-- appended, 80 at most -/
def mo_ap (ws xs : List Int) : List Int := (ws ++ xs).take 80
theorem mo_ap_ap {ws xs ys : List Int} : mo_ap (mo_ap ws xs) ys = mo_ap ws (xs ++ ys) := by
  unfold mo_ap
  rw [← List.append_assoc]
  generalize ws ++ xs = A
  rw [List.take_append, List.take_append, List.take_take, List.length_take]
  congr 1
  by_cases h : A.length ≤ 80
  · rw [Nat.min_eq_right h]
  · rw [Nat.min_eq_left (by omega), Nat.sub_self, List.take_zero, show 80 - A.length = 0 by omega, List.take_zero]
theorem mo_ap_nil {ws : List Int} (h : ws.length ≤ 80) : mo_ap ws [] = ws := by
  unfold mo_ap
  rw [List.append_nil, List.take_of_length_le h]
theorem mo_ap_full {ws xs : List Int} (h : ws.length = 80) : mo_ap ws xs = ws := by
  unfold mo_ap
  rw [← h, List.take_left']
  rfl
theorem mo_ap_len {ws xs : List Int} : (mo_ap ws xs).length ≤ 80 := by
  unfold mo_ap
  rw [List.length_take]
  omega
def cw_s (S : ty_S) (n : Int) (f : Int → Int) : ty_S := ty_sI (ty_mA S (47, 0) f) (18, 0) 3 n
theorem cw_s_put {S : ty_S} {n c : Int} {f : Int → Int} : ty_sI (ty_sA (cw_s S n f) (47, 0) n c) (18, 0) 3 (n + 1) = cw_s S (n + 1) (mo_up f n c) := by
  refine Prod.ext ?_ (Prod.ext rfl (Prod.ext ?_ rfl))
  · funext b j
    show (if b = (18, 0) ∧ j = 3 then n + 1 else if b = (18, 0) ∧ j = 3 then n else S.1 b j) = if b = (18, 0) ∧ j = 3 then n + 1 else S.1 b j
    split <;> rfl
  · funext b j
    show (if b = (47, 0) ∧ j = n then c else (if b = (47, 0) then f else S.2.2.1 b) j) = (if b = (47, 0) then mo_up f n c else S.2.2.1 b) j
    by_cases e : b = (47, 0)
    · subst e
      simp [mo_up]
    · rw [if_neg (fun w => e w.1), if_neg e, if_neg e]
theorem cw_s_n {S : ty_S} {n : Int} {f : Int → Int} : (cw_s S n f).1 (18, 0) 3 = n := ty_sI_at
/-- ws is what is written -/
def cw_R (n : Int) (f : Int → Int) (ws : List Int) : Prop := n = ws.length ∧ mo_at f 0 ws ∧ ws.length ≤ 80
theorem cw_R_put {n c : Int} {f : Int → Int} {ws : List Int} (h : cw_R n f ws) (hn : n < 80) : cw_R (n + 1) (mo_up f n c) (mo_ap ws [c]) := by
  obtain ⟨h1, h2, h3⟩ := h
  have e : mo_ap ws [c] = ws ++ [c] := by
    unfold mo_ap
    rw [List.take_of_length_le (by rw [List.length_append, List.length_singleton]; omega)]
  rw [e]
  refine ⟨by rw [List.length_append, List.length_singleton]; omega, mo_at_app.mpr ⟨mo_at_eq (fun j h0 h1' => if_neg (by omega)) h2, ?_⟩, by rw [List.length_append, List.length_singleton]; omega⟩
  refine ⟨?_, trivial⟩
  show mo_up f n c (0 + ws.length) = c
  exact if_pos (by omega)
section CWW
variable {L : Nat} {xs : Nat → Int32} {S : ty_S} {B F E : ai_A} {n : Nat} {G : mo_G} {made : Int} {bd : Int → Int}
/-- what comes out -/
def cw_o (S : ty_S) (ws : List Int) : ai_O → ty_S → Prop := ty_oV fun S' => ∃ k f, S' = cw_s S k f ∧ cw_R k f ws
theorem cw_put (d : Nat) (hS : ty_st S) {k : Int} {f : Int → Int} {ws : List Int} (hR : cw_R k f ws) {c : Int} (hcr : 0 ≤ c ∧ c ≤ 65535) : ty_C L xs (d + 1) 98 [.inr (.inr (some (18, 0))), .inl (ty_J c)] (cw_s S k f) (cw_o S (mo_ap ws [c])) := by
  have e1 := cw_s_n (S := S) (n := k) (f := f)
  have hput := cw_s_put (S := S) (n := k) (c := c) (f := f)
  have hS : ty_st (cw_s S k f) := hS
  have hk : 0 ≤ k ∧ k ≤ 80 := by have := hR.1; have := hR.2.2; omega
  have hkT : 0 ≤ (cw_s S k f).1 (18, 0) 3 ∧ (cw_s S k f).1 (18, 0) 3 ≤ 80 := by rw [e1]; exact hk
  generalize hT : cw_s S k f = T at e1 hput hS hkT
  refine ty_enter (ml := 2) (ls := [_, _]) rfl rfl (Nat.le_of_ble_eq_true rfl) ?_
  refine ty_aload_n (pc := 0) (i := 0) (ks := []) (by decide +kernel) rfl ?_
  refine ty_getI (pc := 1) (idx := 15) (ci := 10) (f := 3) (by decide +kernel) (by first | rfl | assumption) rfl (by first | exact hS.1 _ _ rfl | assumption) (fun v hv => ?_)
  subst hv
  refine ty_bipush (pc := 4) (n := 80) (ks := []) (by decide +kernel) (by omega) ?_
  -- at 6: .if_icmp .ge 23
  refine ty_icmp_ge (pc := 6) (off := 23) (t := 29) (ks := []) (by decide +kernel) (by omega) (by omega) (fun hc => ?_) (fun hc => ?_)
  · refine ty_ret_v (pc := 29) (ks := []) (by decide +kernel) rfl ?_
    refine ⟨rfl, k, f, hT.symm, ?_⟩
    rw [mo_ap_full (by have := hR.1; have := hR.2.2; omega)]
    exact hR
  · refine ty_aload_n (pc := 9) (i := 0) (ks := []) (by decide +kernel) rfl ?_
    refine ty_getS (b := (47, 0)) (pc := 10) (idx := 9) (ci := 10) (f := 2) (by decide +kernel) (by first | rfl | assumption) rfl (by first | exact hS.1 _ _ rfl | assumption) (by first | exact hS.2.2 _ _ _ _ rfl | assumption) ?_
    refine ty_aload_n (pc := 13) (i := 0) (ks := []) (by decide +kernel) rfl ?_
    refine ty_getI (pc := 14) (idx := 15) (ci := 10) (f := 3) (by decide +kernel) (by first | rfl | assumption) rfl (by first | exact hS.1 _ _ rfl | assumption) (fun v hv => ?_)
    subst hv
    refine ty_iload_n (pc := 17) (i := 1) (ks := []) (by decide +kernel) rfl ?_
    refine ty_castore (pc := 18) (ks := []) (by decide +kernel) (by first | rfl | assumption) (by rfl) (by first | exact hS.1 _ _ rfl | assumption) (by first | exact hS.2.1 _ _ _ rfl | assumption) (by omega) (by omega) ?_
    refine ty_aload_n (pc := 19) (i := 0) (ks := []) (by decide +kernel) rfl ?_
    refine ty_dup (pc := 20) (ks := []) (by decide +kernel) rfl ?_
    refine ty_getI (pc := 21) (idx := 15) (ci := 10) (f := 3) (by decide +kernel) (by first | rfl | assumption) rfl (by first | exact hS.1 _ _ rfl | assumption) (fun v hv => ?_)
    first | simp (decide := true) only [ty_sI, ty_sR, ty_sA, ty_sQ, ty_mA, ty_mQ, ↓reduceIte, false_and, and_false, true_and, and_true, and_self, hne] at hv | simp (decide := true) only [ty_sI, ty_sR, ty_sA, ty_sQ, ty_mA, ty_mQ, ↓reduceIte, false_and, and_false, true_and, and_true, and_self] at hv | skip
    subst hv
    refine ty_iconst (pc := 24) (n := 1) (ks := []) (by decide +kernel) ?_
    refine ty_iadd (pc := 25) (ks := []) (by decide +kernel) ?_
    refine ty_putI (pc := 26) (idx := 15) (ci := 10) (f := 3) (by decide +kernel) (by first | rfl | assumption) rfl rfl (by first | exact hS.1 _ _ rfl | assumption) ?_
    -- at 29: .return_
    refine ty_ret_v (pc := 29) (ks := []) (by decide +kernel) rfl ?_
    refine ⟨rfl, k + 1, mo_up f k c, ?_, cw_R_put hR (by omega)⟩
    rw [e1]
    exact hput
/-- what is known of the variables -/
def cw_V (S : ty_S) (B F E : ai_A) (n : Nat) (G : mo_G) (made : Int) (bd : Int → Int) : Prop := ty_st S ∧ cv_sh S B F E n ∧ cv_g S G ∧ (S.1 (13, 0) 4 = made ∧ 0 ≤ made ∧ made ≤ n) ∧ (∀ v, 0 ≤ v → v < made → S.2.2.1 B v = bd v) ∧ mo_bw G made bd ∧ mo_wf G
theorem cw_value (d : Nat) (hV : cw_V S B F E n G made bd) {k : Int} {f : Int → Int} {t : Int} (ht : mo_ok G made t ∨ (t < 0 ∧ -1 - t < made)) : ty_C L xs (d + 2) 75 [.inr (.inr (some (13, 0))), .inl (ty_J t)] (cw_s S k f) (ty_oI fun z S' => z = mo_val G bd t ∧ S' = cw_s S k f) := by
  obtain ⟨v1, v2, v3, v4, v5, v6, v7⟩ := hV
  have hB := (cv_ne v2 (s := 47) (i := 0) (by decide)).1.1
  have eB : (cw_s S k f).2.2.1 B = S.2.2.1 B := by
    show (if B = (47, 0) then f else S.2.2.1 B) = S.2.2.1 B
    exact if_neg hB
  have hb' : mo_bw G made ((cw_s S k f).2.2.1 B) := fun v a b => by rw [eB, v5 v a b]; exact v6 v a b
  have hm : (cw_s S k f).1 (13, 0) 4 = made := (ty_sI_ne (by decide)).trans v4.1
  have := cv_valueOf (L := L) (xs := xs) (S := cw_s S k f) d v1 v2 v3 v7 hm v4.2 hb' ht
  rw [mo_val_eq v7 v6 (fun v a b => by rw [eB]; exact v5 v a b) ht] at this
  exact this
theorem cw_writeTerm (hV : cw_V S B F E n G made bd) : ∀ (m d : Nat) (t k : Int) (f : Int → Int) (ws : List Int), m ≤ 40 → (mo_ok G made t ∨ (t < 0 ∧ -1 - t < made)) → cw_R k f ws → ty_C L xs (d + 3 + m) 97 [.inr (.inr (some (18, 0))), .inl (ty_J t), .inl (ty_J (40 - (m : Int)))] (cw_s S k f) (cw_o S (mo_ap ws (mo_wr G bd m t))) := by
  have hV0 := hV
  obtain ⟨v1, v2, v3, v4, v5, v6, v7⟩ := hV
  have hn := v2.2.2.2.2.2.2
  intro m
  induction m with
  | zero =>
    intro d t k f ws hm ht hR
    have hS : ty_st (cw_s S k f) := v1
    refine ty_enter (ml := 6) (ls := [_, _, _, _, _, _]) rfl rfl (Nat.le_of_ble_eq_true rfl) ?_
    refine ty_iload_n (pc := 0) (i := 2) (ks := []) (by decide +kernel) rfl ?_
    refine ty_bipush (pc := 1) (n := 40) (ks := []) (by decide +kernel) (by omega) ?_
    -- at 3: .if_icmp .ge 12
    refine ty_icmp_ge (pc := 3) (off := 12) (t := 15) (ks := []) (by decide +kernel) (by omega) (by omega) (fun hc => ?_) (fun hc => ?_)
    · refine ty_ret_v (pc := 15) (ks := []) (by decide +kernel) rfl ?_
      exact ⟨rfl, k, f, rfl, by unfold mo_wr; rw [mo_ap_nil hR.2.2]; exact hR⟩
    · omega
  | succ m ih =>
    intro d t k f ws hm ht hR
    have hk : 0 ≤ k ∧ k ≤ 80 := by have := hR.1; have := hR.2.2; omega
    have hS : ty_st (cw_s S k f) := v1
    have e1 := cw_s_n (S := S) (n := k) (f := f)
    have hval := cw_value (L := L) (xs := xs) (d + m + 1) hV0 (k := k) (f := f) ht
    have hiv := mo_val_isval v7 v6 ht
    have vr : -2147483648 ≤ mo_val G bd t ∧ mo_val G bd t ≤ 2147483647 := by
      rcases hiv with z | z
      · omega
      · have := mo_ok_le v7 z.2.1; omega
    have estep : mo_wr G bd (m + 1) t = if mo_val G bd t < 0 then [95] else mo_l G (mo_val G bd t) :: (mo_wa G (mo_wr G bd m) (mo_val G bd t) (mo_a G (mo_val G bd t)).toNat 0 ++ (if 0 < mo_a G (mo_val G bd t) then [41] else [])) := rfl
    rw [estep]
    generalize hx : mo_val G bd t = x at hval hiv vr
    show ty_C L xs (d + 3 + m + 1) _ _ _ _
    refine ty_enter (ml := 6) (ls := [_, _, _, _, _, _]) rfl rfl (Nat.le_of_ble_eq_true rfl) ?_
    refine ty_iload_n (pc := 0) (i := 2) (ks := []) (by decide +kernel) rfl ?_
    refine ty_bipush (pc := 1) (n := 40) (ks := []) (by decide +kernel) (by omega) ?_
    -- at 3: .if_icmp .ge 12
    refine ty_icmp_ge (pc := 3) (off := 12) (t := 15) (ks := []) (by decide +kernel) (by omega) (by omega) (fun hc => ?_) (fun hc => ?_)
    · omega
    clear hc
    refine ty_aload_n (pc := 6) (i := 0) (ks := []) (by decide +kernel) rfl ?_
    refine ty_getI (pc := 7) (idx := 15) (ci := 10) (f := 3) (by decide +kernel) (by first | rfl | assumption) rfl (by first | exact hS.1 _ _ rfl | assumption) (fun v hv => ?_)
    subst hv
    refine ty_bipush (pc := 10) (n := 80) (ks := []) (by decide +kernel) (by omega) ?_
    -- at 12: .if_icmp .lt 4
    rw [e1]
    refine ty_icmp_lt (pc := 12) (off := 4) (t := 16) (ks := []) (by decide +kernel) (by omega) (by omega) (fun hc => ?_) (fun hc => ?_)
    rotate_left
    · refine ty_ret_v (pc := 15) (ks := []) (by decide +kernel) rfl ?_
      exact ⟨rfl, k, f, rfl, by rw [mo_ap_full (by have := hR.1; have := hR.2.2; omega)]; exact hR⟩
    clear hc
    refine ty_aload_n (pc := 16) (i := 0) (ks := []) (by decide +kernel) rfl ?_
    refine ty_getS (b := (13, 0)) (pc := 17) (idx := 23) (ci := 10) (f := 1) (by decide +kernel) (by first | rfl | assumption) rfl (by first | exact hS.1 _ _ rfl | assumption) (by first | exact hS.2.2 _ _ _ _ rfl | assumption) ?_
    refine ty_iload_n (pc := 20) (i := 1) (ks := []) (by decide +kernel) rfl ?_
    -- at 21: .invokevirtual 31
    refine ty_callv (pc := 21) (idx := 31) (m := 75) (n := 2) (c := 2) (vs := [_]) (r := []) (by decide +kernel) rfl rfl (Nat.le_of_ble_eq_true rfl) (by first | rfl | assumption) (by first | exact hS.1 _ _ rfl | assumption) (hval.deeper (by omega)) ?_
    rintro _ S1 ⟨z, rfl, rfl, rfl⟩
    refine ty_KI ?_
    refine ty_istore_n (pc := 24) (i := 3) (ks := []) (ls' := [_, _, _, _, _, _]) (by decide +kernel) rfl ?_
    refine ty_iload_n (pc := 25) (i := 3) (ks := []) (by decide +kernel) rfl ?_
    -- at 26: .ifCond .ge 10
    refine ty_if_ge (pc := 26) (off := 10) (t := 36) (ks := []) (by decide +kernel) (by omega) (fun hc => ?_) (fun hc => ?_)
    · rw [if_neg (by omega)]
      have ox := (hiv.resolve_left (fun w => by omega)).2.1
      have lx : 0 ≤ mo_l G z ∧ mo_l G z ≤ 65535 := (v7 _ ox.2.1).2.1
      have ax : 0 ≤ mo_a G z ∧ mo_a G z ≤ 3 := (v7 _ ox.2.1).2.2.1
      have bx := mo_ok_le v7 ox
      have hx0 := hc
      -- the arguments
      have loop : ∀ (r : Nat) (j : Int) (k : Int) (f : Int → Int) (ws : List Int), 0 ≤ j → j + r = mo_a G z → cw_R k f ws → ty_W L xs (d + 3 + m) 97 61 [some (.inr (.inr (some (18, 0)))), some (.inl (ty_J t)), some (.inl (ty_J (40 - ((m + 1 : Nat) : Int)))), some (.inl (ty_J z)), some (.inl (ty_J (mo_a G z))), some (.inl (ty_J j))] [] (cw_s S k f) (cw_o S (mo_ap ws (mo_wa G (mo_wr G bd m) z r j ++ (if 0 < mo_a G z then [41] else [])))) := by
        intro r
        induction r with
        | zero =>
          intro j k f ws hj hjr hR
          have hS : ty_st (cw_s S k f) := v1
          refine ty_iload (pc := 61) (i := 5) (ks := []) (by decide +kernel) rfl ?_
          refine ty_iload (pc := 63) (i := 4) (ks := []) (by decide +kernel) rfl ?_
          -- at 65: .if_icmp .ge 42
          refine ty_icmp_ge (pc := 65) (off := 42) (t := 107) (ks := []) (by decide +kernel) (by omega) (by omega) (fun hc => ?_) (fun hc => ?_)
          · clear hc
            refine ty_iload (pc := 107) (i := 4) (ks := []) (by decide +kernel) rfl ?_
            -- at 109: .ifCond .le 9
            refine ty_if_le (pc := 109) (off := 9) (t := 118) (ks := []) (by decide +kernel) (by omega) (fun hc => ?_) (fun hc => ?_)
            · refine ty_ret_v (pc := 118) (ks := []) (by decide +kernel) rfl ?_
              refine ⟨rfl, k, f, rfl, ?_⟩
              rw [if_neg (by omega)]
              show cw_R k f (mo_ap ws [])
              rw [mo_ap_nil hR.2.2]
              exact hR
            · refine ty_aload_n (pc := 112) (i := 0) (ks := []) (by decide +kernel) rfl ?_
              refine ty_bipush (pc := 113) (n := 41) (ks := []) (by decide +kernel) (by omega) ?_
              -- at 115: .invokevirtual 37
              refine ty_callv (pc := 115) (idx := 37) (m := 98) (n := 2) (c := 10) (vs := [_]) (r := []) (by decide +kernel) rfl rfl (Nat.le_of_ble_eq_true rfl) (by first | rfl | assumption) (by first | exact hS.1 _ _ rfl | assumption) ((cw_put (d + m + 2) v1 hR (c := 41) (by decide)).deeper (by omega)) ?_
              rintro _ S2 ⟨rfl, h⟩
              refine ty_KV ?_
              refine ty_ret_v (pc := 118) (ks := []) (by decide +kernel) rfl ?_
              rw [if_pos hc]
              exact ⟨rfl, h⟩
          · omega
        | succ r ihr =>
          intro j k f ws hj hjr hR
          have hS : ty_st (cw_s S k f) := v1
          have go : ∀ c : Int, c = (if j = 0 then 40 else 44) → ty_W L xs (d + 3 + m) 97 81 [some (.inr (.inr (some (18, 0)))), some (.inl (ty_J t)), some (.inl (ty_J (40 - ((m + 1 : Nat) : Int)))), some (.inl (ty_J z)), some (.inl (ty_J (mo_a G z))), some (.inl (ty_J j))] [.inl (ty_J c), .inr (.inr (some (18, 0)))] (cw_s S k f) (cw_o S (mo_ap ws (mo_wa G (mo_wr G bd m) z (r + 1) j ++ (if 0 < mo_a G z then [41] else [])))) := by
            intro c hcc
            refine ty_callv (pc := 81) (idx := 37) (m := 98) (n := 2) (c := 10) (vs := [_]) (r := []) (by decide +kernel) rfl rfl (Nat.le_of_ble_eq_true rfl) (by first | rfl | assumption) (by first | exact hS.1 _ _ rfl | assumption) ((cw_put (d + m + 2) v1 hR (c := c) (by rw [hcc]; split <;> omega)).deeper (by omega)) ?_
            rintro _ S2 ⟨rfl, k2, f2, rfl, hR2⟩
            refine ty_KV ?_
            have hS : ty_st (cw_s S k2 f2) := v1
            have harg : z - z % 624 + (cw_s S k2 f2).2.2.1 (21, 0) (z % 624 * 3 + j) = mo_g G z j := by
              show z - z % 624 + S.2.2.1 (21, 0) (z % 624 * 3 + j) = mo_g G z j
              rw [v3.2.2.1]
              rfl
            refine ty_aload_n (pc := 84) (i := 0) (ks := []) (by decide +kernel) rfl ?_
            refine ty_aload_n (pc := 85) (i := 0) (ks := []) (by decide +kernel) rfl ?_
            refine ty_getS (b := (12, 0)) (pc := 86) (idx := 19) (ci := 10) (f := 0) (by decide +kernel) (by first | rfl | assumption) rfl (by first | exact hS.1 _ _ rfl | assumption) (by first | exact hS.2.2 _ _ _ _ rfl | assumption) ?_
            refine ty_iload_n (pc := 89) (i := 3) (ks := []) (by decide +kernel) rfl ?_
            refine ty_iload (pc := 90) (i := 5) (ks := []) (by decide +kernel) rfl ?_
            -- at 92: .invokevirtual 50
            refine ty_callv (pc := 92) (idx := 50) (m := 72) (n := 3) (c := 1) (vs := [_, _]) (r := [_]) (by decide +kernel) rfl rfl (Nat.le_of_ble_eq_true rfl) (by first | rfl | assumption) (by first | exact hS.1 _ _ rfl | assumption) ((ct_argumentOf (S := cw_s S k2 f2) (d + m + 2) v1 (t := z) (k := j) ⟨hx0, by omega⟩ ⟨hj, by omega⟩).deeper (by omega)) ?_
            rintro _ S3 ⟨y, rfl, hy, rfl⟩
            refine ty_KI ?_
            rw [harg] at hy
            subst hy
            refine ty_iload_n (pc := 95) (i := 2) (ks := []) (by decide +kernel) rfl ?_
            refine ty_iconst (pc := 96) (n := 1) (ks := []) (by decide +kernel) ?_
            refine ty_iadd (pc := 97) (ks := []) (by decide +kernel) ?_
            -- at 98: .invokevirtual 27
            rw [show (40 - ((m + 1 : Nat) : Int)) + 1 = 40 - (m : Int) by omega]
            have hmo := mo_ok_arg v7 ox hj (show j < mo_a G z by omega)
            refine ty_callv (pc := 98) (idx := 27) (m := 97) (n := 3) (c := 10) (vs := [_, _]) (r := []) (by decide +kernel) rfl rfl (Nat.le_of_ble_eq_true rfl) (by first | rfl | assumption) (by first | exact hS.1 _ _ rfl | assumption) (ih d (mo_g G z j) k2 f2 (mo_ap ws [c]) (by omega) (.inl hmo) hR2) ?_
            rintro _ S4 ⟨rfl, k3, f3, rfl, hR3⟩
            refine ty_KV ?_
            have hS : ty_st (cw_s S k3 f3) := v1
            refine ty_iinc (pc := 101) (i := 5) (n := 1) (ks := []) (ls' := [_, _, _, _, _, _]) (by decide +kernel) rfl rfl ?_
            refine ty_goto (pc := 104) (off := (-43)) (t := 61) (ks := []) (by decide +kernel) ?_
            -- at 61: .iload 5
            have := ihr (j + 1) k3 f3 _ (by omega) (by omega) hR3
            rw [mo_ap_ap, mo_ap_ap] at this
            have e2 : mo_wa G (mo_wr G bd m) z (r + 1) j ++ (if 0 < mo_a G z then [41] else []) = [c] ++ (mo_wr G bd m (mo_g G z j) ++ (mo_wa G (mo_wr G bd m) z r (j + 1) ++ (if 0 < mo_a G z then [41] else []))) := by
              show ((if j = 0 then 40 else 44) :: (mo_wr G bd m (mo_g G z j) ++ mo_wa G (mo_wr G bd m) z r (j + 1))) ++ _ = _
              rw [← hcc]
              simp
            rw [e2, ← List.append_assoc [c]]
            rw [← List.append_assoc] at this
            simpa using this
          refine ty_iload (pc := 61) (i := 5) (ks := []) (by decide +kernel) rfl ?_
          refine ty_iload (pc := 63) (i := 4) (ks := []) (by decide +kernel) rfl ?_
          -- at 65: .if_icmp .ge 42
          refine ty_icmp_ge (pc := 65) (off := 42) (t := 107) (ks := []) (by decide +kernel) (by omega) (by omega) (fun hc => ?_) (fun hc => ?_)
          · omega
          clear hc
          refine ty_aload_n (pc := 68) (i := 0) (ks := []) (by decide +kernel) rfl ?_
          refine ty_iload (pc := 69) (i := 5) (ks := []) (by decide +kernel) rfl ?_
          -- at 71: .ifCond .ne 8
          refine ty_if_ne (pc := 71) (off := 8) (t := 79) (ks := []) (by decide +kernel) (by omega) (fun hc => ?_) (fun hc => ?_)
          · refine ty_bipush (pc := 79) (n := 44) (ks := []) (by decide +kernel) (by omega) ?_
            -- at 81: .invokevirtual 37
            exact go 44 (by rw [if_neg hc])
          · refine ty_bipush (pc := 74) (n := 40) (ks := []) (by decide +kernel) (by omega) ?_
            refine ty_goto (pc := 76) (off := 5) (t := 81) (ks := []) (by decide +kernel) ?_
            -- at 81: .invokevirtual 37
            exact go 40 (by rw [if_pos hc])
      have elt : (cw_s S k f).2.2.1 (19, 0) (z % 624) = mo_l G z := by
        show S.2.2.1 (19, 0) (z % 624) = mo_l G z
        rw [v3.1]
        rfl
      refine ty_aload_n (pc := 36) (i := 0) (ks := []) (by decide +kernel) rfl ?_
      refine ty_aload_n (pc := 37) (i := 0) (ks := []) (by decide +kernel) rfl ?_
      refine ty_getS (b := (12, 0)) (pc := 38) (idx := 19) (ci := 10) (f := 0) (by decide +kernel) (by first | rfl | assumption) rfl (by first | exact hS.1 _ _ rfl | assumption) (by first | exact hS.2.2 _ _ _ _ rfl | assumption) ?_
      refine ty_iload_n (pc := 41) (i := 3) (ks := []) (by decide +kernel) rfl ?_
      -- at 42: .invokevirtual 41
      refine ty_callv (pc := 42) (idx := 41) (m := 66) (n := 2) (c := 1) (vs := [_]) (r := [_]) (by decide +kernel) rfl rfl (Nat.le_of_ble_eq_true rfl) (by first | rfl | assumption) (by first | exact hS.1 _ _ rfl | assumption) ((ct_letterOf (S := cw_s S k f) (d + m + 2) v1 (t := z) ⟨hx0, by omega⟩ (by rw [elt]; exact lx)).deeper (by omega)) ?_
      rintro _ S2 ⟨y, rfl, hy, rfl⟩
      refine ty_KI ?_
      rw [elt] at hy
      subst hy
      refine ty_callv (pc := 45) (idx := 37) (m := 98) (n := 2) (c := 10) (vs := [_]) (r := []) (by decide +kernel) rfl rfl (Nat.le_of_ble_eq_true rfl) (by first | rfl | assumption) (by first | exact hS.1 _ _ rfl | assumption) ((cw_put (d + m + 2) v1 hR lx).deeper (by omega)) ?_
      rintro _ S3 ⟨rfl, k2, f2, rfl, hR2⟩
      refine ty_KV ?_
      have hS : ty_st (cw_s S k2 f2) := v1
      have ear : (cw_s S k2 f2).2.2.1 (20, 0) (z % 624) = mo_a G z := by
        show S.2.2.1 (20, 0) (z % 624) = mo_a G z
        rw [v3.2.1]
        rfl
      refine ty_aload_n (pc := 48) (i := 0) (ks := []) (by decide +kernel) rfl ?_
      refine ty_getS (b := (12, 0)) (pc := 49) (idx := 19) (ci := 10) (f := 0) (by decide +kernel) (by first | rfl | assumption) rfl (by first | exact hS.1 _ _ rfl | assumption) (by first | exact hS.2.2 _ _ _ _ rfl | assumption) ?_
      refine ty_iload_n (pc := 52) (i := 3) (ks := []) (by decide +kernel) rfl ?_
      -- at 53: .invokevirtual 47
      refine ty_callv (pc := 53) (idx := 47) (m := 67) (n := 2) (c := 1) (vs := [_]) (r := []) (by decide +kernel) rfl rfl (Nat.le_of_ble_eq_true rfl) (by first | rfl | assumption) (by first | exact hS.1 _ _ rfl | assumption) ((ct_arityOf (S := cw_s S k2 f2) (d + m + 2) v1 (t := z) ⟨hx0, by omega⟩).deeper (by omega)) ?_
      rintro _ S4 ⟨y, rfl, hy, rfl⟩
      refine ty_KI ?_
      rw [ear] at hy
      subst hy
      refine ty_istore (pc := 56) (i := 4) (ks := []) (ls' := [_, _, _, _, _, _]) (by decide +kernel) rfl ?_
      refine ty_iconst (pc := 58) (n := 0) (ks := []) (by decide +kernel) ?_
      refine ty_istore (pc := 59) (i := 5) (ks := []) (ls' := [_, _, _, _, _, _]) (by decide +kernel) rfl ?_
      -- at 61: .iload 5
      have := loop (mo_a G z).toNat 0 k2 f2 _ (Int.le_refl _) (by omega) hR2
      rw [mo_ap_ap] at this
      exact this
    · rw [if_pos (by omega)]
      refine ty_aload_n (pc := 29) (i := 0) (ks := []) (by decide +kernel) rfl ?_
      refine ty_bipush (pc := 30) (n := 95) (ks := []) (by decide +kernel) (by omega) ?_
      -- at 32: .invokevirtual 37
      refine ty_callv (pc := 32) (idx := 37) (m := 98) (n := 2) (c := 10) (vs := [_]) (r := []) (by decide +kernel) rfl rfl (Nat.le_of_ble_eq_true rfl) (by first | rfl | assumption) (by first | exact hS.1 _ _ rfl | assumption) ((cw_put (d + m + 2) v1 hR (c := 95) (by decide)).deeper (by omega)) ?_
      rintro _ S2 ⟨rfl, h⟩
      refine ty_KV ?_
      refine ty_ret_v (pc := 35) (ks := []) (by decide +kernel) rfl ?_
      exact ⟨rfl, h⟩
theorem cw_write (d : Nat) (hV : cw_V S B F E n G made bd) {v : Int} (hv : 0 ≤ v ∧ v < made) : ty_C L xs (d + 44) 96 [.inr (.inr (some (18, 0))), .inl (ty_J v)] S (ty_oI fun z S' => z = (mo_ap [] (mo_wr G bd 40 (-1 - v))).length ∧ ∃ f, S' = cw_s S z f ∧ mo_at f 0 (mo_ap [] (mo_wr G bd 40 (-1 - v)))) := by
  have hS := hV.1
  have e0 : ty_sI S (18, 0) 3 0 = cw_s S 0 (S.2.2.1 (47, 0)) := by
    unfold cw_s
    rw [ty_mA_self]
  refine ty_enter (ml := 2) (ls := [_, _]) rfl rfl (Nat.le_of_ble_eq_true rfl) ?_
  refine ty_aload_n (pc := 0) (i := 0) (ks := []) (by decide +kernel) rfl ?_
  refine ty_iconst (pc := 1) (n := 0) (ks := []) (by decide +kernel) ?_
  refine ty_putI (pc := 2) (idx := 15) (ci := 10) (f := 3) (by decide +kernel) (by first | rfl | assumption) rfl rfl (by first | exact hS.1 _ _ rfl | assumption) ?_
  -- at 5: .aload_n 0
  rw [e0]
  have hS : ty_st (cw_s S 0 (S.2.2.1 (47, 0))) := hV.1
  refine ty_aload_n (pc := 5) (i := 0) (ks := []) (by decide +kernel) rfl ?_
  refine ty_iload_n (pc := 6) (i := 1) (ks := []) (by decide +kernel) rfl ?_
  refine ty_iconst (pc := 7) (n := (-1)) (ks := []) (by decide +kernel) ?_
  refine ty_inot (pc := 8) (ks := []) (by decide +kernel) ?_
  refine ty_iconst (pc := 9) (n := 0) (ks := []) (by decide +kernel) ?_
  -- at 10: .invokevirtual 27
  have := cw_writeTerm (L := L) (xs := xs) hV 40 d (-1 - v) 0 (S.2.2.1 (47, 0)) [] (Nat.le_refl _) (.inr ⟨by omega, by omega⟩) ⟨rfl, trivial, Nat.zero_le _⟩
  rw [show (40 : Int) - ((40 : Nat) : Int) = 0 by decide] at this
  refine ty_callv (pc := 10) (idx := 27) (m := 97) (n := 3) (c := 10) (vs := [_, _]) (r := []) (by decide +kernel) rfl rfl (Nat.le_of_ble_eq_true rfl) (by first | rfl | assumption) (by first | exact hS.1 _ _ rfl | assumption) this ?_
  rintro _ S1 ⟨rfl, k, f, rfl, h1, h2, h3⟩
  refine ty_KV ?_
  have hS : ty_st (cw_s S k f) := hV.1
  have e1 := cw_s_n (S := S) (n := k) (f := f)
  refine ty_aload_n (pc := 13) (i := 0) (ks := []) (by decide +kernel) rfl ?_
  refine ty_getI (pc := 14) (idx := 15) (ci := 10) (f := 3) (by decide +kernel) (by first | rfl | assumption) rfl (by first | exact hS.1 _ _ rfl | assumption) (fun v hv => ?_)
  subst hv
  -- at 17: .ireturn
  rw [e1]
  refine ty_ret_i (pc := 17) (ks := []) (ty := .int) (by decide +kernel) rfl rfl ?_
  exact ⟨k, rfl, h1, f, rfl, h2⟩
end CWW
