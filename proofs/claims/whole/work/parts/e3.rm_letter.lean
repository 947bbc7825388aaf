/-! The reference's letter and sleeping. -/
/-- rows and numbers that the search never reads -/
def rx_o (I : Nat → Int) (A : Nat → Int → Int) (I' : Nat → Int) (A' : Nat → Int → Int) : Prop := (∀ k, k ≠ 63 → k ≠ 10 → k ≠ 9 → k ≠ 7 → k ≠ 11 → I' k = I k) ∧ ∀ q, (53 ≤ q ∧ q ≤ 92) → q ≠ 91 → q ≠ 92 → q ≠ 54 → q ≠ 55 → q ≠ 57 → q ≠ 53 → A' q = A q
theorem rx_S_o {P : mo_P} (hw : mo_wf P.1) {I I' : Nat → Int} {A A' : Nat → Int → Int} {ta rl : Int → Int} {nc ng na : Int} {M : mo_M} (hMI : mo_MI P M) (h : rx_S (rm_u I 11 0) A P.1 ta rl nc ng na M) (hf : rx_o I A I' A') : rx_S (rm_u I' 11 0) A' P.1 ta rl nc ng na M := by
  obtain ⟨st, came, sl, al, ar, V, todo, cs, ans⟩ := M
  obtain ⟨b1, b2, b3, b4⟩ := hMI
  obtain ⟨x1, x2, x3, x4, x5, x6, x7, x8, x9, x10, x11, x12⟩ := h
  simp only at b1 b2 b3 b4 x2 x3 x4 x5 x6 x7 x8 x9 x10 x11 x12
  obtain ⟨f1, f2⟩ := hf
  have g1 : ∀ k, k ≠ 63 → k ≠ 10 → k ≠ 9 → k ≠ 7 → rm_u I' 11 0 k = rm_u I 11 0 k := fun k h1 h2 h3 h4 => by
    unfold rm_u
    by_cases e : k = 11
    · rw [if_pos e, if_pos e]
    · rw [if_neg e, if_neg e]
      exact f1 k h1 h2 h3 h4 e
  have eT : rm_u I' 11 0 32 = rm_u I 11 0 32 := g1 _ (by decide) (by decide) (by decide) (by decide)
  have hrr : rr A' = rr A := rr_e (f2 _ (by decide) (by decide) (by decide) (by decide) (by decide) (by decide) (by decide)) (f2 _ (by decide) (by decide) (by decide) (by decide) (by decide) (by decide) (by decide)) (f2 _ (by decide) (by decide) (by decide) (by decide) (by decide) (by decide) (by decide)) (f2 _ (by decide) (by decide) (by decide) (by decide) (by decide) (by decide) (by decide)) (f2 _ (by decide) (by decide) (by decide) (by decide) (by decide) (by decide) (by decide))
  have fj := fun q h0 h1 h2 h3 h4 h5 h6 (j : Int) => congrFun (f2 q h0 h1 h2 h3 h4 h5 h6) j
  have eAt : A' 71 = A 71 := f2 _ (by decide) (by decide) (by decide) (by decide) (by decide) (by decide) (by decide)
  have eOl : A' 72 = A 72 := f2 _ (by decide) (by decide) (by decide) (by decide) (by decide) (by decide) (by decide)
  refine ⟨⟨rfl, (g1 _ (by decide) (by decide) (by decide) (by decide)).trans x1.2⟩, ⟨(g1 _ (by decide) (by decide) (by decide) (by decide)).trans x2.1, x2.2⟩, ⟨by rw [eT]; exact x3.1, by rw [eT, eAt]; exact x3.2⟩, ⟨(g1 _ (by decide) (by decide) (by decide) (by decide)).trans x4.1, (g1 _ (by decide) (by decide) (by decide) (by decide)).trans x4.2⟩, ⟨(g1 _ (by decide) (by decide) (by decide) (by decide)).trans x5.1, x5.2⟩, ⟨(g1 _ (by decide) (by decide) (by decide) (by decide)).trans x6.1, x6.2⟩, (g1 _ (by decide) (by decide) (by decide) (by decide)).trans x7, (g1 _ (by decide) (by decide) (by decide) (by decide)).trans x8, (g1 _ (by decide) (by decide) (by decide) (by decide)).trans x9, (g1 _ (by decide) (by decide) (by decide) (by decide)).trans x10, ?_, ?_⟩
  · rw [hrr]
    exact rx_V_k hw x11 b3.2.2.1 x5.2.1 (Int.le_refl _) (fun c _ _ => ⟨rfl, fj _ (by decide) (by decide) (by decide) (by decide) (by decide) (by decide) (by decide) _, fj _ (by decide) (by decide) (by decide) (by decide) (by decide) (by decide) (by decide) _⟩) (fun j _ _ => fj _ (by decide) (by decide) (by decide) (by decide) (by decide) (by decide) (by decide) _) (fun c c0 c1 => by omega) (fun e _ _ => ⟨fj _ (by decide) (by decide) (by decide) (by decide) (by decide) (by decide) (by decide) _, rfl⟩) (fun k _ _ => ⟨⟨fj _ (by decide) (by decide) (by decide) (by decide) (by decide) (by decide) (by decide) _, fj _ (by decide) (by decide) (by decide) (by decide) (by decide) (by decide) (by decide) _⟩, rfl⟩) (fun _ _ _ => ⟨rfl, rfl⟩) (fun _ _ _ => rfl)
  · rw [eT]
    exact rx_C_k hw (Int.le_refl st) (Int.le_refl _) cs V.1 V.2.2.2.1 V.2.2.2.2.2.1 nc ng na _ _ _ _ _ b4 x12 ⟨fun c _ _ => ⟨rfl, fj _ (by decide) (by decide) (by decide) (by decide) (by decide) (by decide) (by decide) _, fj _ (by decide) (by decide) (by decide) (by decide) (by decide) (by decide) (by decide) _⟩, fun j _ _ => fj _ (by decide) (by decide) (by decide) (by decide) (by decide) (by decide) (by decide) _, fun g _ _ => ⟨fj _ (by decide) (by decide) (by decide) (by decide) (by decide) (by decide) (by decide) _, fj _ (by decide) (by decide) (by decide) (by decide) (by decide) (by decide) (by decide) _, fj _ (by decide) (by decide) (by decide) (by decide) (by decide) (by decide) (by decide) _, fj _ (by decide) (by decide) (by decide) (by decide) (by decide) (by decide) (by decide) _, fj _ (by decide) (by decide) (by decide) (by decide) (by decide) (by decide) (by decide) _⟩, fun e _ _ => fj _ (by decide) (by decide) (by decide) (by decide) (by decide) (by decide) (by decide) _, fun k _ _ => ⟨fj _ (by decide) (by decide) (by decide) (by decide) (by decide) (by decide) (by decide) _, fj _ (by decide) (by decide) (by decide) (by decide) (by decide) (by decide) (by decide) _⟩, fun k _ _ => ⟨fj _ (by decide) (by decide) (by decide) (by decide) (by decide) (by decide) (by decide) _, fj _ (by decide) (by decide) (by decide) (by decide) (by decide) (by decide) (by decide) _, fj _ (by decide) (by decide) (by decide) (by decide) (by decide) (by decide) (by decide) _, fj _ (by decide) (by decide) (by decide) (by decide) (by decide) (by decide) (by decide) _, fj _ (by decide) (by decide) (by decide) (by decide) (by decide) (by decide) (by decide) _, fj _ (by decide) (by decide) (by decide) (by decide) (by decide) (by decide) (by decide) _, fj _ (by decide) (by decide) (by decide) (by decide) (by decide) (by decide) (by decide) _, fj _ (by decide) (by decide) (by decide) (by decide) (by decide) (by decide) (by decide) _, fj _ (by decide) (by decide) (by decide) (by decide) (by decide) (by decide) (by decide) _⟩, fun to t0 t1 r j _ => by rw [hrr, eAt, eOl]⟩ (fun _ _ _ => rfl) (fun _ _ _ => ⟨rfl, rfl⟩) (fun _ _ _ => rfl) (Int.le_refl _) (Int.le_refl _) (Int.le_refl _) (Int.le_refl _) (Int.le_refl _)
theorem rm_A_o {S0 : ty_S} {I I' : Nat → Int} {A A' : Nat → Int → Int} {tau : dk_T} {s : Nat → Nat} {m : Nat} {as : Option mo_M} (hU : dk_U S0 tau) (hMI : ∀ M, as = some M → mo_MI (dk_P S0 tau s m) M) (h : rm_As S0 I A tau as) (hf : rx_o I A I' A') : rm_As S0 I' A' tau as := by
  cases as with
  | none => trivial
  | some M =>
    obtain ⟨g1, g2, ta, rl, nc, ng, na, g3⟩ := h
    refine ⟨g1, fun v v0 v1 => ?_, ta, rl, nc, ng, na, rx_S_o (P := dk_P S0 tau s m) (dk_wf hU) (hMI M rfl) g3 hf⟩
    rw [hf.2 _ (by decide) (by decide) (by decide) (by decide) (by decide) (by decide) (by decide)]
    exact g2 v v0 v1
theorem rm_R_w {S0 : ty_S} {I I' : Nat → Int} {A A' : Nat → Int → Int} {tau : dk_T} {s : Nat → Nat} {tx : List Int} {pl : Int} {m : Nat} {as : Option mo_M} (hU : dk_U S0 tau) (hMI : ∀ M, as = some M → mo_MI (dk_P S0 tau s m) M) (h : rm_R S0 I A tau s tx pl m as) (hf : rw_f I A I' A') : rm_R S0 I' A' tau s tx pl m as := by
  obtain ⟨h1, h2, h3, h4, h5, h6⟩ := h
  have k := fun k hk => hf.1 k hk
  refine ⟨⟨(hf.1 _ (by decide)).trans h1.1, h1.2.1, h1.2.2.1, by rw [hf.2 _ (by decide) (by decide)]; exact h1.2.2.2⟩, (hf.1 _ (by decide)).trans h2, ⟨⟨(hf.1 _ (by decide)).trans h3.1.1, h3.1.2⟩, fun i hi t ht => ?_⟩, ?_, (hf.1 _ (by decide)).trans h5, rm_A_o hU hMI h6 ⟨fun k h1 _ _ _ _ => hf.1 k h1, fun q _ h1 h2 _ _ _ _ => hf.2 q h1 h2⟩⟩
  · rw [hf.2 55 (by decide) (by decide), hf.2 54 (by decide) (by decide)]
    exact h3.2 i hi t ht
  · unfold rx_E
    rw [hf.1 40 (by decide), hf.1 33 (by decide), hf.1 35 (by decide)]
    exact h4
/-- other rows do not count -/
theorem rm_R_in {S0 : ty_S} {I : Nat → Int} {A A' : Nat → Int → Int} {tau : dk_T} {s : Nat → Nat} {tx : List Int} {pl : Int} {m : Nat} {as : Option mo_M} (hU : dk_U S0 tau) (hMI : ∀ M, as = some M → mo_MI (dk_P S0 tau s m) M) (h : rm_R S0 I A tau s tx pl m as) (hA : ∀ q, (53 ≤ q ∧ q ≤ 92) → A' q = A q) : rm_R S0 I A' tau s tx pl m as := by
  obtain ⟨h1, h2, h3, h4, h5, h6⟩ := h
  refine ⟨⟨h1.1, h1.2.1, h1.2.2.1, by rw [hA _ (by decide)]; exact h1.2.2.2⟩, h2, ⟨h3.1, fun i hi t ht => ?_⟩, h4, h5, rm_A_o hU hMI h6 ⟨fun _ _ _ _ _ _ => rfl, fun q h0 _ _ _ _ _ _ => hA q h0⟩⟩
  rw [hA 55 (by decide), hA 54 (by decide)]
  exact h3.2 i hi t ht
/-- outcome o: thrown t, value z; c tells the exceptions' codes -/
def rl_o (c : Nat → Int) (o : Nat ⊕ Int) (t z : Int) : Prop := match o with
  | .inl e => t = c e
  | .inr y => t = 0 ∧ z = y
def rl_c (e : Nat) : Int := if e = 0 then 1 else 2
theorem dk_ltr_n {G : mo_G} {tau : dk_T} {v i : Int} (hv : 0 ≤ v ∧ v ≤ 25) : dk_ltr G tau none v i = .inl 2 := if_neg (by omega)
theorem dk_ltr_s {G : mo_G} {tau : dk_T} {M : mo_M} {v i : Int} (hv : 0 ≤ v ∧ v ≤ 25) : dk_ltr G tau (some M) v i = (if dk_rk tau v = -1 then .inl 2 else
    if i = -1 then .inr (mo_ap [] (mo_wr G M.2.2.2.2.2.1.2.1 40 (-1 - dk_rk tau v))).length
    else if i < 0 ∨ ((mo_ap [] (mo_wr G M.2.2.2.2.2.1.2.1 40 (-1 - dk_rk tau v))).length : Int) ≤ i then .inl 2
    else .inr ((mo_ap [] (mo_wr G M.2.2.2.2.2.1.2.1 40 (-1 - dk_rk tau v))).getD i.toNat 0)) := if_neg (by omega)
theorem dk_slp_n {G : mo_G} {tau : dk_T} {v : Int} (hv : 0 ≤ v ∧ v ≤ 25) : dk_slp G tau none v = .inr (-1) := if_neg (by omega)
theorem dk_slp_s {G : mo_G} {tau : dk_T} {M : mo_M} {v : Int} (hv : 0 ≤ v ∧ v ≤ 25) : dk_slp G tau (some M) v = (if dk_rk tau v = -1 then .inr (-1) else .inr (mo_asl G M (dk_rk tau v))) := if_neg (by omega)
section RML
variable {L : Nat} {xs : Nat → Int32} {S S0 : ty_S} {I : Nat → Int} {A : Nat → Int → Int} {tau : dk_T} {s : Nat → Nat} {tx : List Int} {pl : Int} {m : Nat} {as : Option mo_M}
theorem rm_letter (d : Nat) (hS : ty_st S) (hR : rm_R S0 I A tau s tx pl m as) (hU : dk_U S0 tau) (hMI : ∀ M, as = some M → mo_MI (dk_P S0 tau s m) M) {v i : Int} (hv : -2147483648 ≤ v ∧ v ≤ 2147483647) (hi : -2147483648 ≤ i ∧ i ≤ 2147483647) :
    ty_C L xs (d + 3) 145 [.inr (.inr (some (94, 0))), .inl (ty_J v), .inl (ty_J i)] (rm_s S I A) (ty_oI fun z S' => ∃ I' A', S' = rm_s S I' A' ∧ rm_R S0 I' A' tau s tx pl m as ∧ rl_o rl_c (dk_ltr (dk_G S0 tau) tau as v i) (I' 11) z) := by
  have hR1 := rm_R_thr hR (v := 0)
  have hasr : 0 ≤ I 38 ∧ I 38 ≤ 1 := by rw [hR.2.2.2.2.1]; split <;> omega
  refine ty_enter (ml := 3) (ls := [_, _, _]) rfl rfl (Nat.le_of_ble_eq_true rfl) ?_
  refine ty_aload_n (pc := 0) (i := 0) (ks := []) (by decide +kernel) rfl ?_
  refine ty_iload_n (pc := 1) (i := 1) (ks := []) (by decide +kernel) rfl ?_
  refine ty_iconst (pc := 2) (n := 0) (ks := []) (by decide +kernel) ?_
  refine ty_bipush (pc := 3) (n := 25) (ks := []) (by decide +kernel) (by omega) ?_
  -- at 5: .invokestatic 138
  refine ty_calls (pc := 5) (idx := 138) (m := 105) (n := 3) (c := 0) (av := [_, _, _]) (r := [_]) (by decide +kernel) rfl rfl (Nat.le_of_ble_eq_true rfl) ((rm_in (L := L) (xs := xs) 0 (v := v) (a := 0) (b := 25) hv (by decide) (by decide)).deeper (by omega)) ?_
  rintro _ S1 ⟨f, rfl, hf, rfl⟩
  refine ty_KI ?_
  have hf01 : f = 0 ∨ f = 1 := by rw [hf]; split <;> omega
  refine ty_callv (pc := 8) (idx := 142) (m := 106) (n := 2) (c := 13) (vs := [_]) (r := []) (by decide +kernel) rfl rfl (Nat.le_of_ble_eq_true rfl) (by first | rfl | assumption) (by first | exact hS.1 _ _ rfl | assumption) ((rm_bad (L := L) (xs := xs) 0 hS hf01).deeper (by omega)) ?_
  rintro _ S1 ⟨z, rfl, hz, rfl⟩
  refine ty_KI ?_
  by_cases hvr : 0 ≤ v ∧ v ≤ 25
  rotate_left
  · rw [if_neg hvr] at hf
    subst hf
    refine ty_if_eq (pc := 11) (off := 5) (t := 16) (ks := []) (by decide +kernel) (by omega) (fun hc => ?_) (fun hc => ?_)
    · omega
    clear hc
    refine ty_iconst (pc := 14) (n := 0) (ks := []) (by decide +kernel) ?_
    -- at 15: .ireturn
    refine ty_ret_i (pc := 15) (ks := []) (ty := .int) (by decide +kernel) rfl rfl ?_
    refine ⟨0, rfl, _, A, rfl, rm_R_thr hR, ?_⟩
    have e : dk_ltr (dk_G S0 tau) tau as v i = .inl 0 := if_pos (by omega)
    rw [e]
    rfl
  rw [if_pos hvr] at hf
  subst hf
  rw [show (1 : Int) - 1 = 0 by omega]
  refine ty_if_eq (pc := 11) (off := 5) (t := 16) (ks := []) (by decide +kernel) (by omega) (fun hc => ?_) (fun hc => ?_)
  rotate_left
  · omega
  clear hc
  -- no such variable
  have no : ∀ o : Nat ⊕ Int, o = .inl 2 → ty_W L xs (d + 2) 145 32 [some (.inr (.inr (some (94, 0)))), some (.inl (ty_J v)), some (.inl (ty_J i))] [] (rm_s S (rm_u I 11 0) A) (ty_oI fun z S' => ∃ I' A', S' = rm_s S I' A' ∧ rm_R S0 I' A' tau s tx pl m as ∧ rl_o rl_c o (I' 11) z) := by
    intro o ho
    subst ho
    refine ty_aload_n (pc := 32) (i := 0) (ks := []) (by decide +kernel) rfl ?_
    refine ty_iconst (pc := 33) (n := 2) (ks := []) (by decide +kernel) ?_
    -- at 34: .invokevirtual 149
    refine ty_callv (pc := 34) (idx := 149) (m := 107) (n := 2) (c := 13) (vs := [_]) (r := []) (by decide +kernel) rfl rfl (Nat.le_of_ble_eq_true rfl) (by first | rfl | assumption) (by first | exact hS.1 _ _ rfl | assumption) ((rm_fail (L := L) (xs := xs) 0 hS (c := 2)).deeper (by omega)) ?_
    rintro _ S1 ⟨z, rfl, rfl, rfl⟩
    refine ty_KI ?_
    refine ty_ret_i (pc := 37) (ks := []) (ty := .int) (by decide +kernel) rfl rfl ?_
    exact ⟨0, rfl, _, A, rfl, rm_R_thr hR1, rfl⟩
  refine ty_aload_n (pc := 16) (i := 0) (ks := []) (by decide +kernel) rfl ?_
  refine ty_getI (pc := 17) (idx := 177) (ci := 13) (f := 38) (by decide +kernel) (by first | rfl | assumption) rfl (by first | exact hS.1 _ _ rfl | assumption) (fun v hv => ?_)
  simp (decide := true) only [rm_I, rm_u, rm_w, ty_sI, ty_sR, ty_sA, ty_sQ, ty_mA, ty_mQ, ↓reduceIte, false_and, and_false, true_and, and_true, and_self] at hv
  subst hv
  -- at 20: .ifCond .eq 12
  cases as with
  | none =>
    have hask : I 38 = 0 := hR.2.2.2.2.1
    refine ty_if_eq (pc := 20) (off := 12) (t := 32) (ks := []) (by decide +kernel) (by omega) (fun hc => ?_) (fun hc => ?_)
    · exact no _ (dk_ltr_n hvr)
    · exact absurd hask hc
  | some M =>
    have hask : I 38 = 1 := hR.2.2.2.2.1
    have hMI := hMI M rfl
    obtain ⟨⟨q, hq, hQ⟩, hqu, ta, rl, nc, ng, na, hX⟩ := hR1.2.2.2.2.2
    rw [rm_u_u] at hX
    obtain ⟨k1, k2, k3, k4⟩ := dk_rank hU hq (v := v) ⟨hvr.1, by omega⟩
    have hqv := hqu v hvr.1 (by omega)
    refine ty_if_eq (pc := 20) (off := 12) (t := 32) (ks := []) (by decide +kernel) (by omega) (fun hc => ?_) (fun hc => ?_)
    · omega
    clear hc
    refine ty_aload_n (pc := 23) (i := 0) (ks := []) (by decide +kernel) rfl ?_
    refine ty_getS (b := (59, 0)) (pc := 24) (idx := 28) (ci := 13) (f := 6) (by decide +kernel) (by first | rfl | assumption) rfl (by first | exact hS.1 _ _ rfl | assumption) (by first | exact hS.2.2 _ _ _ _ rfl | assumption) ?_
    refine ty_iload_n (pc := 27) (i := 1) (ks := []) (by decide +kernel) rfl ?_
    refine ty_iaload (pc := 28) (ks := []) (by decide +kernel) (by first | rfl | assumption) (by rfl) (by first | exact hS.1 _ _ rfl | assumption) (by first | exact hS.2.1 _ _ _ rfl | assumption) (by omega) (fun v hv => ?_)
    rw [rm_A (by decide)] at hv
    first | (simp (decide := true) only [rm_w, ty_sI, ty_sR, ty_sA, ty_sQ, ty_mA, ty_mQ, ↓reduceIte, false_and, and_false, true_and, and_true, and_self] at hv) | skip
    subst hv
    -- at 29: .ifCond .ge 9
    rw [hqv]
    refine ty_if_ge (pc := 29) (off := 9) (t := 38) (ks := []) (by decide +kernel) (by omega) (fun hc => ?_) (fun hc => ?_)
    rotate_left
    · exact no _ ((dk_ltr_s hvr).trans (if_pos (by omega)))
    have hrk := hc
    clear hc
    have hRh := fun (M : mo_M) (h : mo_MI (dk_P S0 tau s m) M) (hx : rx_S (rm_u I 11 0) A (dk_G S0 tau) ta rl nc ng na M) => rx_S_R (P := dk_P S0 tau s m) (st := M.1) (came := M.2.1) (sl := M.2.2.1) (al := M.2.2.2.1) (ar := M.2.2.2.2.1) (made := M.2.2.2.2.2.1.1) (bd := M.2.2.2.2.2.1.2.1) (ch := M.2.2.2.2.2.1.2.2.1) (ns := M.2.2.2.2.2.1.2.2.2.1) (dn := M.2.2.2.2.2.1.2.2.2.2.1) (an := M.2.2.2.2.2.1.2.2.2.2.2.1) (aw := M.2.2.2.2.2.1.2.2.2.2.2.2) (todo := M.2.2.2.2.2.2.1) (cs := M.2.2.2.2.2.2.2.1) (ans := M.2.2.2.2.2.2.2.2) h hx
    have hRh := hRh M hMI hX
    have hrk2 := k4 (by omega)
    have hmd : dk_nv q ≤ M.2.2.2.2.2.1.1 := hQ.1
    have hWr := rm_write (L := L) (xs := xs) (S := S) (I := rm_u I 11 0) (A := A) d hS (dk_wf hU) hMI.2.2.1.2.1 hRh.2.2.2.2.2.2.2.1.2 hRh.2.2.2.2.2.2.2.2.1.2 hRh.2.2.2.2.2.2.1 hRh.2.2.2.2.1 (x := -1 - dk_rk tau v) ⟨by omega, by omega⟩
    rw [dk_ltr_s hvr, if_neg (by omega)]
    clear no
    refine ty_aload_n (pc := 38) (i := 0) (ks := []) (by decide +kernel) rfl ?_
    refine ty_iconst (pc := 39) (n := (-1)) (ks := []) (by decide +kernel) ?_
    refine ty_aload_n (pc := 40) (i := 0) (ks := []) (by decide +kernel) rfl ?_
    refine ty_getS (b := (59, 0)) (pc := 41) (idx := 28) (ci := 13) (f := 6) (by decide +kernel) (by first | rfl | assumption) rfl (by first | exact hS.1 _ _ rfl | assumption) (by first | exact hS.2.2 _ _ _ _ rfl | assumption) ?_
    refine ty_iload_n (pc := 44) (i := 1) (ks := []) (by decide +kernel) rfl ?_
    refine ty_iaload (pc := 45) (ks := []) (by decide +kernel) (by first | rfl | assumption) (by rfl) (by first | exact hS.1 _ _ rfl | assumption) (by first | exact hS.2.1 _ _ _ rfl | assumption) (by omega) (fun v hv => ?_)
    rw [rm_A (by decide)] at hv
    first | (simp (decide := true) only [rm_w, ty_sI, ty_sR, ty_sA, ty_sQ, ty_mA, ty_mQ, ↓reduceIte, false_and, and_false, true_and, and_true, and_self] at hv) | skip
    subst hv
    refine ty_isub (pc := 46) (ks := []) (by decide +kernel) ?_
    -- at 47: .invokevirtual 333
    rw [hqv]
    refine ty_callv (pc := 47) (idx := 333) (m := 146) (n := 2) (c := 13) (vs := [_]) (r := []) (by decide +kernel) rfl rfl (Nat.le_of_ble_eq_true rfl) (by first | rfl | assumption) (by first | exact hS.1 _ _ rfl | assumption) hWr ?_
    generalize mo_ap [] (mo_wr (dk_G S0 tau) M.2.2.2.2.2.1.2.1 40 (-1 - dk_rk tau v)) = ws
    rintro _ S1 ⟨rfl, I2, A2, rfl, ⟨w1, w2, w3⟩, w4⟩
    refine ty_KV ?_
    have hR2 : rm_R S0 I2 A2 tau s tx pl m (some M) := rm_R_w hU (fun M' hM' => by cases hM'; exact hMI) hR1 w4
    have ht2 : I2 11 = 0 := w4.1 _ (by decide)
    have hwr : 0 ≤ I2 63 ∧ I2 63 ≤ 80 := by omega
    refine ty_iload_n (pc := 50) (i := 2) (ks := []) (by decide +kernel) rfl ?_
    refine ty_iconst (pc := 51) (n := (-1)) (ks := []) (by decide +kernel) ?_
    -- at 52: .if_icmp .ne 8
    refine ty_icmp_ne (pc := 52) (off := 8) (t := 60) (ks := []) (by decide +kernel) (by omega) (by omega) (fun hc => ?_) (fun hc => ?_)
    rotate_left
    · have hi1 := hc
      refine ty_aload_n (pc := 55) (i := 0) (ks := []) (by decide +kernel) rfl ?_
      refine ty_getI (pc := 56) (idx := 324) (ci := 13) (f := 63) (by decide +kernel) (by first | rfl | assumption) rfl (by first | exact hS.1 _ _ rfl | assumption) (fun v hv => ?_)
      simp (decide := true) only [rm_I, rm_u, rm_w, ty_sI, ty_sR, ty_sA, ty_sQ, ty_mA, ty_mQ, ↓reduceIte, false_and, and_false, true_and, and_true, and_self] at hv
      subst hv
      -- at 59: .ireturn
      refine ty_ret_i (pc := 59) (ks := []) (ty := .int) (by decide +kernel) rfl rfl ?_
      refine ⟨_, rfl, I2, A2, rfl, hR2, ?_⟩
      rw [if_pos hi1]
      exact ⟨ht2, w1⟩
    · have hi1 := hc
      clear hc
      rw [if_neg hi1]
      refine ty_iload_n (pc := 60) (i := 2) (ks := []) (by decide +kernel) rfl ?_
      refine ty_iconst (pc := 61) (n := 0) (ks := []) (by decide +kernel) ?_
      refine ty_aload_n (pc := 62) (i := 0) (ks := []) (by decide +kernel) rfl ?_
      refine ty_getI (pc := 63) (idx := 324) (ci := 13) (f := 63) (by decide +kernel) (by first | rfl | assumption) rfl (by first | exact hS.1 _ _ rfl | assumption) (fun v hv => ?_)
      simp (decide := true) only [rm_I, rm_u, rm_w, ty_sI, ty_sR, ty_sA, ty_sQ, ty_mA, ty_mQ, ↓reduceIte, false_and, and_false, true_and, and_true, and_self] at hv
      subst hv
      refine ty_iconst (pc := 66) (n := 1) (ks := []) (by decide +kernel) ?_
      refine ty_isub (pc := 67) (ks := []) (by decide +kernel) ?_
      -- at 68: .invokestatic 138
      refine ty_calls (pc := 68) (idx := 138) (m := 105) (n := 3) (c := 0) (av := [_, _, _]) (r := []) (by decide +kernel) rfl rfl (Nat.le_of_ble_eq_true rfl) ((rm_in (L := L) (xs := xs) 0 (v := i) (a := 0) (b := I2 63 - 1) hi (by decide) (by omega)).deeper (by omega)) ?_
      rintro _ S1 ⟨f, rfl, hf, rfl⟩
      refine ty_KI ?_
      have hf01 : f = 0 ∨ f = 1 := by rw [hf]; split <;> omega
      refine ty_if_eq (pc := 71) (off := 12) (t := 83) (ks := []) (by decide +kernel) (by omega) (fun hc => ?_) (fun hc => ?_)
      · have hno : i < 0 ∨ (ws.length : Int) ≤ i := by
          by_cases e : 0 ≤ i ∧ i ≤ I2 63 - 1
          · rw [if_pos e] at hf
            omega
          · omega
        rw [if_pos hno]
        refine ty_aload_n (pc := 83) (i := 0) (ks := []) (by decide +kernel) rfl ?_
        refine ty_iconst (pc := 84) (n := 2) (ks := []) (by decide +kernel) ?_
        -- at 85: .invokevirtual 149
        refine ty_callv (pc := 85) (idx := 149) (m := 107) (n := 2) (c := 13) (vs := [_]) (r := []) (by decide +kernel) rfl rfl (Nat.le_of_ble_eq_true rfl) (by first | rfl | assumption) (by first | exact hS.1 _ _ rfl | assumption) ((rm_fail (L := L) (xs := xs) 0 hS (c := 2)).deeper (by omega)) ?_
        rintro _ S1 ⟨z, rfl, rfl, rfl⟩
        refine ty_KI ?_
        refine ty_ret_i (pc := 88) (ks := []) (ty := .int) (by decide +kernel) rfl rfl ?_
        exact ⟨0, rfl, _, A2, rfl, rm_R_thr hR2, rfl⟩
      · have hyes : 0 ≤ i ∧ i ≤ I2 63 - 1 := by
          by_cases e : 0 ≤ i ∧ i ≤ I2 63 - 1
          · exact e
          · rw [if_neg e] at hf
            exact absurd hf hc
        rw [if_neg (by omega)]
        have hg : A2 91 i = ws.getD i.toNat 0 := by
          have hk : ws[i.toNat]? = some ws[i.toNat] := List.getElem?_eq_getElem (by omega)
          have := mo_at_get w3 hk
          rw [show (0 : Int) + (i.toNat : Int) = i by omega] at this
          rw [this, List.getD_eq_getElem?_getD, hk]
          rfl
        refine ty_aload_n (pc := 74) (i := 0) (ks := []) (by decide +kernel) rfl ?_
        refine ty_getS (b := (91, 0)) (pc := 75) (idx := 129) (ci := 13) (f := 61) (by decide +kernel) (by first | rfl | assumption) rfl (by first | exact hS.1 _ _ rfl | assumption) (by first | exact hS.2.2 _ _ _ _ rfl | assumption) ?_
        refine ty_iload_n (pc := 78) (i := 2) (ks := []) (by decide +kernel) rfl ?_
        refine ty_iaload (pc := 79) (ks := []) (by decide +kernel) (by first | rfl | assumption) (by rfl) (by first | exact hS.1 _ _ rfl | assumption) (by first | exact hS.2.1 _ _ _ rfl | assumption) (by omega) (fun v hv => ?_)
        rw [rm_A (by decide)] at hv
        first | (simp (decide := true) only [rm_w, ty_sI, ty_sR, ty_sA, ty_sQ, ty_mA, ty_mQ, ↓reduceIte, false_and, and_false, true_and, and_true, and_self] at hv) | skip
        subst hv
        refine ty_goto (pc := 80) (off := 8) (t := 88) (ks := []) (by decide +kernel) ?_
        -- at 88: .ireturn
        rw [hg]
        refine ty_ret_i (pc := 88) (ks := []) (ty := .int) (by decide +kernel) rfl rfl ?_
        exact ⟨_, rfl, I2, A2, rfl, hR2, ht2, rfl⟩
theorem rm_sleeping (d : Nat) (hS : ty_st S) (hR : rm_R S0 I A tau s tx pl m as) (hU : dk_U S0 tau) (hMI : ∀ M, as = some M → mo_MI (dk_P S0 tau s m) M) {v : Int} (hv : -2147483648 ≤ v ∧ v ≤ 2147483647) :
    ty_C L xs (d + 2) 148 [.inr (.inr (some (94, 0))), .inl (ty_J v)] (rm_s S I A) (ty_oI fun z S' => ∃ I' A', S' = rm_s S I' A' ∧ rm_R S0 I' A' tau s tx pl m as ∧ rl_o rl_c (dk_slp (dk_G S0 tau) tau as v) (I' 11) z) := by
  have hR1 := rm_R_thr hR (v := 0)
  have hasr : 0 ≤ I 38 ∧ I 38 ≤ 1 := by rw [hR.2.2.2.2.1]; split <;> omega
  refine ty_enter (ml := 5) (ls := [_, _, _, _, _]) rfl rfl (Nat.le_of_ble_eq_true rfl) ?_
  refine ty_aload_n (pc := 0) (i := 0) (ks := []) (by decide +kernel) rfl ?_
  refine ty_iload_n (pc := 1) (i := 1) (ks := []) (by decide +kernel) rfl ?_
  refine ty_iconst (pc := 2) (n := 0) (ks := []) (by decide +kernel) ?_
  refine ty_bipush (pc := 3) (n := 25) (ks := []) (by decide +kernel) (by omega) ?_
  -- at 5: .invokestatic 138
  refine ty_calls (pc := 5) (idx := 138) (m := 105) (n := 3) (c := 0) (av := [_, _, _]) (r := [_]) (by decide +kernel) rfl rfl (Nat.le_of_ble_eq_true rfl) ((rm_in (L := L) (xs := xs) 0 (v := v) (a := 0) (b := 25) hv (by decide) (by decide)).deeper (by omega)) ?_
  rintro _ S1 ⟨f, rfl, hf, rfl⟩
  refine ty_KI ?_
  have hf01 : f = 0 ∨ f = 1 := by rw [hf]; split <;> omega
  refine ty_callv (pc := 8) (idx := 142) (m := 106) (n := 2) (c := 13) (vs := [_]) (r := []) (by decide +kernel) rfl rfl (Nat.le_of_ble_eq_true rfl) (by first | rfl | assumption) (by first | exact hS.1 _ _ rfl | assumption) ((rm_bad (L := L) (xs := xs) 0 hS hf01).deeper (by omega)) ?_
  rintro _ S1 ⟨z, rfl, hz, rfl⟩
  refine ty_KI ?_
  by_cases hvr : 0 ≤ v ∧ v ≤ 25
  rotate_left
  · rw [if_neg hvr] at hf
    subst hf
    refine ty_if_eq (pc := 11) (off := 5) (t := 16) (ks := []) (by decide +kernel) (by omega) (fun hc => ?_) (fun hc => ?_)
    · omega
    clear hc
    refine ty_iconst (pc := 14) (n := 0) (ks := []) (by decide +kernel) ?_
    -- at 15: .ireturn
    refine ty_ret_i (pc := 15) (ks := []) (ty := .int) (by decide +kernel) rfl rfl ?_
    refine ⟨0, rfl, _, A, rfl, rm_R_thr hR, ?_⟩
    have e : dk_slp (dk_G S0 tau) tau as v = .inl 0 := if_pos (by omega)
    rw [e]
    rfl
  rw [if_pos hvr] at hf
  subst hf
  rw [show (1 : Int) - 1 = 0 by omega]
  refine ty_if_eq (pc := 11) (off := 5) (t := 16) (ks := []) (by decide +kernel) (by omega) (fun hc => ?_) (fun hc => ?_)
  rotate_left
  · omega
  clear hc
  have no : ∀ o : Nat ⊕ Int, o = .inr (-1) → ty_W L xs (d + 1) 148 32 [some (.inr (.inr (some (94, 0)))), some (.inl (ty_J v)), none, none, none] [] (rm_s S (rm_u I 11 0) A) (ty_oI fun z S' => ∃ I' A', S' = rm_s S I' A' ∧ rm_R S0 I' A' tau s tx pl m as ∧ rl_o rl_c o (I' 11) z) := by
    intro o ho
    subst ho
    refine ty_iconst (pc := 32) (n := (-1)) (ks := []) (by decide +kernel) ?_
    -- at 33: .ireturn
    refine ty_ret_i (pc := 33) (ks := []) (ty := .int) (by decide +kernel) rfl rfl ?_
    exact ⟨-1, rfl, _, A, rfl, hR1, rfl, rfl⟩
  refine ty_aload_n (pc := 16) (i := 0) (ks := []) (by decide +kernel) rfl ?_
  refine ty_getI (pc := 17) (idx := 177) (ci := 13) (f := 38) (by decide +kernel) (by first | rfl | assumption) rfl (by first | exact hS.1 _ _ rfl | assumption) (fun v hv => ?_)
  simp (decide := true) only [rm_I, rm_u, rm_w, ty_sI, ty_sR, ty_sA, ty_sQ, ty_mA, ty_mQ, ↓reduceIte, false_and, and_false, true_and, and_true, and_self] at hv
  subst hv
  -- at 20: .ifCond .eq 12
  cases as with
  | none =>
    have hask : I 38 = 0 := hR.2.2.2.2.1
    refine ty_if_eq (pc := 20) (off := 12) (t := 32) (ks := []) (by decide +kernel) (by omega) (fun hc => ?_) (fun hc => ?_)
    · exact no _ (dk_slp_n hvr)
    · exact absurd hask hc
  | some M =>
    have hask : I 38 = 1 := hR.2.2.2.2.1
    have hMI := hMI M rfl
    obtain ⟨⟨q, hq, hQ⟩, hqu, ta, rl, nc, ng, na, hX⟩ := hR1.2.2.2.2.2
    rw [rm_u_u] at hX
    obtain ⟨k1, k2, k3, k4⟩ := dk_rank hU hq (v := v) ⟨hvr.1, by omega⟩
    have hqv := hqu v hvr.1 (by omega)
    refine ty_if_eq (pc := 20) (off := 12) (t := 32) (ks := []) (by decide +kernel) (by omega) (fun hc => ?_) (fun hc => ?_)
    · omega
    clear hc
    refine ty_aload_n (pc := 23) (i := 0) (ks := []) (by decide +kernel) rfl ?_
    refine ty_getS (b := (59, 0)) (pc := 24) (idx := 28) (ci := 13) (f := 6) (by decide +kernel) (by first | rfl | assumption) rfl (by first | exact hS.1 _ _ rfl | assumption) (by first | exact hS.2.2 _ _ _ _ rfl | assumption) ?_
    refine ty_iload_n (pc := 27) (i := 1) (ks := []) (by decide +kernel) rfl ?_
    refine ty_iaload (pc := 28) (ks := []) (by decide +kernel) (by first | rfl | assumption) (by rfl) (by first | exact hS.1 _ _ rfl | assumption) (by first | exact hS.2.1 _ _ _ rfl | assumption) (by omega) (fun v hv => ?_)
    rw [rm_A (by decide)] at hv
    first | (simp (decide := true) only [rm_w, ty_sI, ty_sR, ty_sA, ty_sQ, ty_mA, ty_mQ, ↓reduceIte, false_and, and_false, true_and, and_true, and_self] at hv) | skip
    subst hv
    -- at 29: .ifCond .ge 5
    rw [hqv]
    refine ty_if_ge (pc := 29) (off := 5) (t := 34) (ks := []) (by decide +kernel) (by omega) (fun hc => ?_) (fun hc => ?_)
    rotate_left
    · exact no _ ((dk_slp_s hvr).trans (if_pos (by omega)))
    have hrk := hc
    clear hc no
    have hw : mo_wf (dk_G S0 tau) := dk_wf hU
    obtain ⟨st, came, sl, al, ar, ⟨made, bd, ch, ns, dn, an, aw⟩, todo, cs, ans⟩ := M
    have hRh := rx_S_R (P := dk_P S0 tau s m) hMI hX
    have hrk2 := k4 (by omega)
    have hmd : dk_nv q ≤ made := hQ.1
    have hns : 0 ≤ ns ∧ ns ≤ 500 := hRh.2.2.2.2.2.2.2.2.2
    have hrv := hRh.2.2.2.2.2.1
    have hcw := hMI.2.2.1.2.2.1
    have hbw := hMI.2.2.1.2.1
    simp only at hcw hbw
    rw [dk_slp_s hvr, if_neg (by omega)]
    have hasl : mo_asl (dk_G S0 tau) (st, came, sl, al, ar, (made, bd, ch, ns, dn, an, aw), todo, cs, ans) (dk_rk tau v) = if mo_val (dk_G S0 tau) bd (-1 - dk_rk tau v) < 0 then ((ch (-1 - mo_val (dk_G S0 tau) bd (-1 - dk_rk tau v))).length : Int) else 0 := rfl
    rw [hasl]
    clear hasl
    have hv0 : mo_vv bd (-1 - dk_rk tau v) = mo_val (dk_G S0 tau) bd (-1 - dk_rk tau v) := by
      unfold mo_vv mo_val
      rw [if_pos (by omega), if_pos (by omega)]
    have hVl := rm_value (L := L) (xs := xs) (S := S) (I := rm_u I 11 0) (A := A) d hS hbw hRh.2.2.2.2.1 hRh.2.2.2.2.2.2.2.1.2 hRh.2.2.2.2.2.2.2.2.1.2 (x := -1 - dk_rk tau v) (y := -1 - dk_rk tau v) (.inl ⟨by omega, rfl⟩) (by omega)
    have hiv := mo_val_isval hw hbw (t := -1 - dk_rk tau v) (.inr ⟨by omega, by omega⟩)
    refine ty_aload_n (pc := 34) (i := 0) (ks := []) (by decide +kernel) rfl ?_
    refine ty_iconst (pc := 35) (n := (-1)) (ks := []) (by decide +kernel) ?_
    refine ty_aload_n (pc := 36) (i := 0) (ks := []) (by decide +kernel) rfl ?_
    refine ty_getS (b := (59, 0)) (pc := 37) (idx := 28) (ci := 13) (f := 6) (by decide +kernel) (by first | rfl | assumption) rfl (by first | exact hS.1 _ _ rfl | assumption) (by first | exact hS.2.2 _ _ _ _ rfl | assumption) ?_
    refine ty_iload_n (pc := 40) (i := 1) (ks := []) (by decide +kernel) rfl ?_
    refine ty_iaload (pc := 41) (ks := []) (by decide +kernel) (by first | rfl | assumption) (by rfl) (by first | exact hS.1 _ _ rfl | assumption) (by first | exact hS.2.1 _ _ _ rfl | assumption) (by omega) (fun v hv => ?_)
    rw [rm_A (by decide)] at hv
    first | (simp (decide := true) only [rm_w, ty_sI, ty_sR, ty_sA, ty_sQ, ty_mA, ty_mQ, ↓reduceIte, false_and, and_false, true_and, and_true, and_self] at hv) | skip
    subst hv
    refine ty_isub (pc := 42) (ks := []) (by decide +kernel) ?_
    -- at 43: .invokevirtual 240
    rw [hqv]
    refine ty_callv (pc := 43) (idx := 240) (m := 134) (n := 2) (c := 13) (vs := [_]) (r := []) (by decide +kernel) rfl rfl (Nat.le_of_ble_eq_true rfl) (by first | rfl | assumption) (by first | exact hS.1 _ _ rfl | assumption) hVl ?_
    rintro _ S1 ⟨u, rfl, hu, rfl⟩
    refine ty_KI ?_
    rw [hv0] at hu
    obtain ⟨u1, u2, u3⟩ := rm_isval_var hu hiv
    generalize mo_val (dk_G S0 tau) bd (-1 - dk_rk tau v) = X at hu hiv u1 u2 u3
    clear hVl hv0
    have hmade : made ≤ 13000 := hRh.2.2.2.2.2.2.2.2.1.2
    have hur : -13000 ≤ u ∧ u < 24000 := by
      have hnc : nc ≤ 24000 := hRh.2.2.2.2.2.2.2.1.2
      by_cases e : u < 0
      · have := u2 e
        omega
      · have := u3 (by omega)
        omega
    -- the chain
    have loop : ∀ (l : List Int) (e n : Int), mo_lnk (A 74) e l → (∀ c ∈ l, 0 ≤ c ∧ c < ns) → 0 ≤ n → n + l.length ≤ 1000 → ty_W L xs (d + 1) 148 67 [some (.inr (.inr (some (94, 0)))), some (.inl (ty_J v)), some (.inl (ty_J u)), some (.inl (ty_J n)), some (.inl (ty_J e))] [] (rm_s S (rm_u I 11 0) A) (ty_oI fun z S' => ∃ I' A', S' = rm_s S I' A' ∧ rm_R S0 I' A' tau s tx pl m (some (st, came, sl, al, ar, (made, bd, ch, ns, dn, an, aw), todo, cs, ans)) ∧ rl_o rl_c (.inr (n + l.length)) (I' 11) z) := by
      intro l
      induction l with
      | nil =>
        intro e n h1 _ h3 h4
        have h1 : e = -1 := h1
        subst h1
        refine ty_iload (pc := 67) (i := 4) (ks := []) (by decide +kernel) rfl ?_
        -- at 69: .ifCond .lt 18
        refine ty_if_lt (pc := 69) (off := 18) (t := 87) (ks := []) (by decide +kernel) (by omega) (fun hc => ?_) (fun hc => ?_)
        rotate_left
        · omega
        clear hc
        refine ty_iload_n (pc := 87) (i := 3) (ks := []) (by decide +kernel) rfl ?_
        -- at 88: .ireturn
        refine ty_ret_i (pc := 88) (ks := []) (ty := .int) (by decide +kernel) rfl rfl ?_
        refine ⟨n, rfl, _, A, rfl, hR1, rfl, ?_⟩
        simp
      | cons c l ih =>
        intro e n h1 h2 h3 h4
        obtain ⟨g1, g2, g3⟩ := h1
        subst g1
        have hc := h2 e List.mem_cons_self
        rw [List.length_cons] at h4
        have hcr := hc
        clear hc
        refine ty_iload (pc := 67) (i := 4) (ks := []) (by decide +kernel) rfl ?_
        -- at 69: .ifCond .lt 18
        refine ty_if_lt (pc := 69) (off := 18) (t := 87) (ks := []) (by decide +kernel) (by omega) (fun hc => ?_) (fun hc => ?_)
        · omega
        clear hc
        refine ty_iinc (pc := 72) (i := 3) (n := 1) (ks := []) (ls' := [_, _, _, _, _]) (by decide +kernel) rfl rfl ?_
        refine ty_aload_n (pc := 75) (i := 0) (ks := []) (by decide +kernel) rfl ?_
        refine ty_getS (b := (74, 0)) (pc := 76) (idx := 78) (ci := 13) (f := 44) (by decide +kernel) (by first | rfl | assumption) rfl (by first | exact hS.1 _ _ rfl | assumption) (by first | exact hS.2.2 _ _ _ _ rfl | assumption) ?_
        refine ty_iload (pc := 79) (i := 4) (ks := []) (by decide +kernel) rfl ?_
        refine ty_iaload (pc := 81) (ks := []) (by decide +kernel) (by first | rfl | assumption) (by rfl) (by first | exact hS.1 _ _ rfl | assumption) (by first | exact hS.2.1 _ _ _ rfl | assumption) (by omega) (fun v hv => ?_)
        rw [rm_A (by decide)] at hv
        first | (simp (decide := true) only [rm_w, ty_sI, ty_sR, ty_sA, ty_sQ, ty_mA, ty_mQ, ↓reduceIte, false_and, and_false, true_and, and_true, and_self] at hv) | skip
        subst hv
        refine ty_istore (pc := 82) (i := 4) (ks := []) (ls' := [_, _, _, _, _]) (by decide +kernel) rfl ?_
        refine ty_goto (pc := 84) (off := (-17)) (t := 67) (ks := []) (by decide +kernel) ?_
        -- at 67: .iload 4
        have := ih (A 74 e) (n + 1) g3 (fun c hc => h2 c (List.mem_cons_of_mem _ hc)) (by omega) (by omega)
        rw [List.length_cons, show n + ((l.length + 1 : Nat) : Int) = n + 1 + l.length by omega]
        exact this
    refine ty_istore_n (pc := 46) (i := 2) (ks := []) (ls' := [_, _, _, _, _]) (by decide +kernel) rfl ?_
    refine ty_iconst (pc := 47) (n := 0) (ks := []) (by decide +kernel) ?_
    refine ty_istore_n (pc := 48) (i := 3) (ks := []) (ls' := [_, _, _, _, _]) (by decide +kernel) rfl ?_
    refine ty_iload_n (pc := 49) (i := 2) (ks := []) (by decide +kernel) rfl ?_
    -- at 50: .ifCond .ge 14
    refine ty_if_ge (pc := 50) (off := 14) (t := 64) (ks := []) (by decide +kernel) (by omega) (fun hc => ?_) (fun hc => ?_)
    · have hX : ¬ X < 0 := fun z => by have := u1.mpr z; omega
      refine ty_iconst (pc := 64) (n := (-1)) (ks := []) (by decide +kernel) ?_
      refine ty_istore (pc := 65) (i := 4) (ks := []) (ls' := [_, _, _, _, _]) (by decide +kernel) rfl ?_
      -- at 67: .iload 4
      rw [if_neg hX]
      have := loop [] (-1) 0 rfl (fun c hc => (nomatch hc)) (Int.le_refl _) (by decide)
      exact this
    · obtain ⟨e1, e2, e3, e4⟩ := u2 hc
      have hX : X < 0 := u1.mp hc
      clear hc
      rw [if_pos hX]
      have hl := hrv.2 (-1 - u) e2 e3 e4
      have hcc := hcw.1 (-1 - u) e2 e3 e4
      have hlen := mo_count ns.toNat (ch (-1 - u)) hcc.2.1 (fun e he => by have := hcc.1 e he; omega)
      refine ty_aload_n (pc := 53) (i := 0) (ks := []) (by decide +kernel) rfl ?_
      refine ty_getS (b := (64, 0)) (pc := 54) (idx := 48) (ci := 13) (f := 18) (by decide +kernel) (by first | rfl | assumption) rfl (by first | exact hS.1 _ _ rfl | assumption) (by first | exact hS.2.2 _ _ _ _ rfl | assumption) ?_
      refine ty_iconst (pc := 57) (n := (-1)) (ks := []) (by decide +kernel) ?_
      refine ty_iload_n (pc := 58) (i := 2) (ks := []) (by decide +kernel) rfl ?_
      refine ty_isub (pc := 59) (ks := []) (by decide +kernel) ?_
      refine ty_iaload (pc := 60) (ks := []) (by decide +kernel) (by first | rfl | assumption) (by rfl) (by first | exact hS.1 _ _ rfl | assumption) (by first | exact hS.2.1 _ _ _ rfl | assumption) (by omega) (fun v hv => ?_)
      rw [rm_A (by decide)] at hv
      first | (simp (decide := true) only [rm_w, ty_sI, ty_sR, ty_sA, ty_sQ, ty_mA, ty_mQ, ↓reduceIte, false_and, and_false, true_and, and_true, and_self] at hv) | skip
      subst hv
      refine ty_goto (pc := 61) (off := 4) (t := 65) (ks := []) (by decide +kernel) ?_
      refine ty_istore (pc := 65) (i := 4) (ks := []) (ls' := [_, _, _, _, _]) (by decide +kernel) rfl ?_
      -- at 67: .iload 4
      have := loop (ch (-1 - u)) (A 64 (-1 - u)) 0 hl.1 hcc.1 (Int.le_refl _) (by omega)
      rw [← e1, Int.zero_add] at *
      exact this
end RML
