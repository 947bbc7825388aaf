/-! The reference goes back. -/
theorem mo_fin_new {P : mo_P} {st came : Int} {sl al ar : Int → Int} {made : Int} {bd : Int → Int} {ch : Int → List Int} {ns : Int} {dn : List Int} {an : Int} {aw : Int → Bool} {todo : List mo_Go} {cs : List mo_Ch} {ans : Int} {ps : List (Int × Int)} {body : List mo_Go} {n : Int} (h : an ≤ n) : mo_fin P (st, came, sl, al, ar, (made, bd, ch, ns, dn, an, aw), todo, cs, ans) ps body n = mo_fin P (st, came, sl, al, ar, (made, bd, ch, ns, dn, an, aw), todo, cs, ans) ps body an := by
  unfold mo_fin
  dsimp only
  generalize mo_ur P.1 false st (ps, bd, ch, [], false) = u
  obtain ⟨c, st1, bd1, ch1, wk, fl⟩ := u
  dsimp only
  cases fl with
  | true => rfl
  | false =>
    have e1 : ∀ q : Int, (if (false : Bool) = true then 0 else q) = q := fun q => if_neg (by decide)
    rw [e1 n, e1 an, show (an - n).toNat = 0 by omega, show (an - an).toNat = 0 by omega]
    rfl
theorem mo_seek_b {P : mo_P} {k : Nat} {M : mo_M} (h : M.2.2.2.2.2.2.2.1 ≠ []) : mo_seek P (k + 1) false M = if (mo_round P false M).1 = 1 then mo_seek P k true (mo_round P false M).2 else if (mo_round P false M).1 = 0 then mo_seek P k false (mo_round P false M).2 else mo_round P false M := by
  have e1 : ¬ ((false : Bool) = true ∧ M.2.2.2.2.2.2.1 = []) := fun z => absurd z.1 (by decide)
  have e2 : ¬ ((false : Bool) = false ∧ M.2.2.2.2.2.2.2.1 = []) := fun z => h z.2
  show (if (false : Bool) = true ∧ M.2.2.2.2.2.2.1 = [] then _ else _) = _
  rw [if_neg e1, if_neg e2]
theorem mo_seek_e {P : mo_P} {k : Nat} {M : mo_M} (h : M.2.2.2.2.2.2.2.1 = []) : mo_seek P (k + 1) false M = (0, M) := by
  have e1 : ¬ ((false : Bool) = true ∧ M.2.2.2.2.2.2.1 = []) := fun z => absurd z.1 (by decide)
  show (if (false : Bool) = true ∧ M.2.2.2.2.2.2.1 = [] then _ else _) = _
  rw [if_neg e1, if_pos ⟨rfl, h⟩]
/-- below the newest choice all stays, once the trail is undone -/
theorem rx_C_u {G : mo_G} {sl al ar rl ta : Int → Int} {A A' : Nat → Int → Int} {TL tl1 st : Int} (htl : tl1 ≤ TL) (hA : ∀ q, q ≠ 63 → q ≠ 64 → q ≠ 65 → q ≠ 74 → q ≠ 77 → q ≠ 83 → A' q = A q) (hR : rr A' = ru (A 71) (A 72) tl1 (TL - tl1).toNat (rr A)) {N : Int} (hc : ∀ k, k < N → A' 83 k = A 83 k) : ∀ (cs : List mo_Ch) (nc ng na tl : Int), (cs.length : Int) ≤ N → tl ≤ tl1 → rx_C G sl al ar rl ta A TL st nc ng na tl cs → rx_C G sl al ar rl ta A' tl1 st nc ng na tl cs
  | [], _, _, _, _, _, _, _ => trivial
  | (t, i, todo, V) :: cs, nc, ng, na, tl, hN, ht, h => by
    obtain ⟨x, nc2, ng2, na2, tl2, b1, b2, b3, b4, b5, b6, b7, b8, b9⟩ := h
    rw [List.length_cons] at hN
    have e := fun q h1 h2 h3 h4 h5 h6 (j : Int) => congrFun (hA q h1 h2 h3 h4 h5 h6) j
    refine ⟨x, nc2, ng2, na2, tl2, ?_, b2, b3, b4, b5, b6, ?_, ?_, ?_⟩
    · rw [hc _ (by omega), hA 82 (by decide) (by decide) (by decide) (by decide) (by decide) (by decide), hA 85 (by decide) (by decide) (by decide) (by decide) (by decide) (by decide), hA 86 (by decide) (by decide) (by decide) (by decide) (by decide) (by decide), hA 87 (by decide) (by decide) (by decide) (by decide) (by decide) (by decide), hA 88 (by decide) (by decide) (by decide) (by decide) (by decide) (by decide), hA 89 (by decide) (by decide) (by decide) (by decide) (by decide) (by decide), hA 90 (by decide) (by decide) (by decide) (by decide) (by decide) (by decide)]
      exact b1
    · rw [hA 84 (by decide) (by decide) (by decide) (by decide) (by decide) (by decide)]
      exact rm_td_keep (Int.le_refl _) (Int.le_refl _) (fun _ _ _ => rfl) (fun g _ _ => ⟨e _ (by decide) (by decide) (by decide) (by decide) (by decide) (by decide) _, e _ (by decide) (by decide) (by decide) (by decide) (by decide) (by decide) _, e _ (by decide) (by decide) (by decide) (by decide) (by decide) (by decide) _, e _ (by decide) (by decide) (by decide) (by decide) (by decide) (by decide) _, e _ (by decide) (by decide) (by decide) (by decide) (by decide) (by decide) _⟩) _ _ b7
    · have hru : ru (A' 71) (A' 72) tl2 (tl1 - tl2).toNat (rr A') = ru (A 71) (A 72) tl2 (TL - tl2).toNat (rr A) := by
        rw [hA 71 (by decide) (by decide) (by decide) (by decide) (by decide) (by decide), hA 72 (by decide) (by decide) (by decide) (by decide) (by decide) (by decide), hR]
        have hs := ru_split (at' := A 71) (old := A 72) (to := tl2) (tl1 - tl2).toNat (TL - tl1).toNat (rr A)
        rw [show tl2 + (((tl1 - tl2).toNat : Nat) : Int) = tl1 by omega, show (tl1 - tl2).toNat + (TL - tl1).toNat = (TL - tl2).toNat by omega] at hs
        exact hs.symm
      rw [hru]
      obtain ⟨v1, v2, v3, v4, v5⟩ := b8
      refine ⟨fun c c0 c1 => rm_cell_e (v1 c c0 c1) (hA _ (by decide) (by decide) (by decide) (by decide) (by decide) (by decide)) (hA _ (by decide) (by decide) (by decide) (by decide) (by decide) (by decide)) (hA _ (by decide) (by decide) (by decide) (by decide) (by decide) (by decide)), v2, v3, ?_, ?_⟩
      · rw [hA 73 (by decide) (by decide) (by decide) (by decide) (by decide) (by decide)]
        exact v4
      · unfold rx_A at v5 ⊢
        rw [hA 75 (by decide) (by decide) (by decide) (by decide) (by decide) (by decide), hA 76 (by decide) (by decide) (by decide) (by decide) (by decide) (by decide)]
        exact v5
    · exact rx_C_u htl hA hR hc cs nc2 ng2 na2 tl2 (by omega) (by omega) b9
/-- the newest choice, put back -/
theorem rx_put {G : mo_G} {I : Nat → Int} {A : Nat → Int → Int} {ta rl : Int → Int} {st came : Int} {sl al ar : Int → Int} {V0 : mo_V} {todo0 : List mo_Go} {t i : Int} {todo : List mo_Go} {V : mo_V} {cs : List mo_Ch} {ans : Int} (hB : rx_B I A G ta rl (st, came, sl, al, ar, V0, todo0, (t, i, todo, V) :: cs, ans)) : ∃ x nc1 ng1 na1 tl1, (A 82 cs.length = x ∧ A 83 cs.length = i ∧ A 85 cs.length = nc1 ∧ A 86 cs.length = V.1 ∧ A 87 cs.length = ng1 ∧ A 88 cs.length = tl1 ∧ A 89 cs.length = V.2.2.2.1 ∧ A 90 cs.length = na1) ∧ (0 ≤ nc1 ∧ nc1 ≤ 24 * st) ∧ (0 ≤ ng1 ∧ ng1 ≤ 24 * st + V.2.2.2.2.1.length) ∧ (0 ≤ tl1 ∧ tl1 ≤ I 32) ∧ (0 ≤ x ∧ rm_t G ta nc1 x t) ∧ (∀ c, 0 ≤ c → c < nc1 → rm_cell G V.1 ta nc1 A c) ∧
    ∀ (I' : Nat → Int) (A' : Nat → Int → Int) (i' : Int) (cs' : List mo_Ch), (cs' = cs ∨ cs' = (t, i', todo, V) :: cs) → (∀ q, q ≠ 63 → q ≠ 64 → q ≠ 65 → q ≠ 74 → q ≠ 77 → q ≠ 83 → A' q = A q) → rr A' = ru (A 71) (A 72) tl1 (I 32 - tl1).toNat (rr A) → (∀ k : Int, k < cs.length → A' 83 k = A 83 k) → A' 83 cs.length = i' → (∀ k, k ≠ 32 → k ≠ 25 → k ≠ 26 → k ≠ 28 → k ≠ 34 → k ≠ 35 → k ≠ 33 → I' k = I k) → I' 32 = tl1 → I' 25 = nc1 → I' 26 = V.1 → I' 28 = ng1 → I' 34 = V.2.2.2.1 → I' 35 = na1 → I' 33 = (cs'.length : Int) → rx_S I' A' G ta rl nc1 ng1 na1 (st, came, sl, al, ar, V, todo, cs', ans) ∧ rm_td G ta nc1 A' ng1 (A 84 cs.length) todo := by
  obtain ⟨y1, y2, y3, y4, y5, y6, nc, ng, na, h⟩ := hB
  simp only at y2 y3 y4 y5 y6 h
  obtain ⟨x, nc1, ng1, na1, tl1, b1, b2, b3, b4, b5, b6, b7, b8, b9⟩ := h
  refine ⟨x, nc1, ng1, na1, tl1, b1, ⟨b2.1, b2.2.2⟩, ⟨b3.1, b3.2.2⟩, b5, b6, b8.1, ?_⟩
  intro I' A' i' cs' hcs hA hR hc hci hI i1 i2 i3 i4 i5 i6 i7
  have e := fun q h1 h2 h3 h4 h5 h6 (j : Int) => congrFun (hA q h1 h2 h3 h4 h5 h6) j
  have hV : rx_V G sl al ar rl ta A' (rr A') nc1 na1 V := by
    rw [hR]
    obtain ⟨v1, v2, v3, v4, v5⟩ := b8
    refine ⟨fun c c0 c1 => rm_cell_e (v1 c c0 c1) (hA _ (by decide) (by decide) (by decide) (by decide) (by decide) (by decide)) (hA _ (by decide) (by decide) (by decide) (by decide) (by decide) (by decide)) (hA _ (by decide) (by decide) (by decide) (by decide) (by decide) (by decide)), v2, v3, ?_, ?_⟩
    · rw [hA 73 (by decide) (by decide) (by decide) (by decide) (by decide) (by decide)]
      exact v4
    · unfold rx_A at v5 ⊢
      rw [hA 75 (by decide) (by decide) (by decide) (by decide) (by decide) (by decide), hA 76 (by decide) (by decide) (by decide) (by decide) (by decide) (by decide)]
      exact v5
  have htd : rm_td G ta nc1 A' ng1 (A 84 cs.length) todo := rm_td_keep (Int.le_refl _) (Int.le_refl _) (fun _ _ _ => rfl) (fun g _ _ => ⟨e _ (by decide) (by decide) (by decide) (by decide) (by decide) (by decide) _, e _ (by decide) (by decide) (by decide) (by decide) (by decide) (by decide) _, e _ (by decide) (by decide) (by decide) (by decide) (by decide) (by decide) _, e _ (by decide) (by decide) (by decide) (by decide) (by decide) (by decide) _, e _ (by decide) (by decide) (by decide) (by decide) (by decide) (by decide) _⟩) _ _ b7
  have hC := rx_C_u (st := st) b5.2 hA hR (N := cs.length) hc cs nc1 ng1 na1 tl1 (Int.le_refl _) (Int.le_refl _) b9
  refine ⟨⟨⟨(hI _ (by decide) (by decide) (by decide) (by decide) (by decide) (by decide) (by decide)).trans y1.1, (hI _ (by decide) (by decide) (by decide) (by decide) (by decide) (by decide) (by decide)).trans y1.2⟩, ⟨(hI _ (by decide) (by decide) (by decide) (by decide) (by decide) (by decide) (by decide)).trans y2.1, y2.2⟩, ⟨by rw [i1]; simp only; omega, ?_⟩, ⟨i3, (hI _ (by decide) (by decide) (by decide) (by decide) (by decide) (by decide) (by decide)).trans y4⟩, ⟨i2, b2.1, by simp only; omega⟩, ⟨i4, b3.1, by simp only; omega⟩, i5, i6, i7, (hI _ (by decide) (by decide) (by decide) (by decide) (by decide) (by decide) (by decide)).trans y6, hV, ?_⟩, htd⟩
  · rw [i1, hA 71 (by decide) (by decide) (by decide) (by decide) (by decide) (by decide)]
    exact fun j j0 j1 => y3.2 j j0 (by omega)
  · simp only
    rw [i1]
    rcases hcs with rfl | rfl
    · exact hC
    · refine ⟨x, nc1, ng1, na1, tl1, ?_, by omega, by omega, by omega, by omega, b6, ?_, ?_, hC⟩
      · rw [hci, hA 82 (by decide) (by decide) (by decide) (by decide) (by decide) (by decide), hA 85 (by decide) (by decide) (by decide) (by decide) (by decide) (by decide), hA 86 (by decide) (by decide) (by decide) (by decide) (by decide) (by decide), hA 87 (by decide) (by decide) (by decide) (by decide) (by decide) (by decide), hA 88 (by decide) (by decide) (by decide) (by decide) (by decide) (by decide), hA 89 (by decide) (by decide) (by decide) (by decide) (by decide) (by decide), hA 90 (by decide) (by decide) (by decide) (by decide) (by decide) (by decide)]
        exact ⟨b1.1, rfl, b1.2.2⟩
      · rw [hA 84 (by decide) (by decide) (by decide) (by decide) (by decide) (by decide)]
        exact htd
      · rw [Int.sub_self]
        exact hV
/-- what back comes to -/
def rb_p (S : ty_S) (I : Nat → Int) (A : Nat → Int → Int) (P : mo_P) (m0 : Nat) (R : Int × mo_M) : ai_O → ty_S → Prop := ty_oI fun z S' => ∃ I' A', S' = rm_s S I' A' ∧ (rx_K I A I' A' ∧ rx_E I') ∧ ((z = 1 ∧ ∃ m' M' ta' rl' nc' ng' na', m' < m0 ∧ R = mo_seek P m' true M' ∧ mo_ph M' < m' ∧ mo_MI P M' ∧ rx_S I' A' P.1 ta' rl' nc' ng' na' M' ∧ rm_td P.1 ta' nc' A' ng' (I' 29) M'.2.2.2.2.2.2.1) ∨ (z = 0 ∧ R.1 = 0 ∧ I' 11 = 0) ∨ (z = 0 ∧ R.1 = 2 ∧ I' 11 = 3))
section RXB
variable {L : Nat} {xs : Nat → Int32} {S S0 : ty_S} {tau : dk_T} {s : Nat → Nat} {m : Nat}
theorem rb_loop (d : Nat) (hS : ty_st S) (hU : dk_U S0 tau) (hs : dk_s tau s m) {I : Nat → Int} {A : Nat → Int → Int} (hrp : rp I A tau s m) {m0 : Nat} {R : Int × mo_M} : ∀ (k : Nat) (I1 : Nat → Int) (A1 : Nat → Int → Int) (ta rl : Int → Int) (M : mo_M) (x1 x2 x3 x4 : Option Int32), k ≤ m0 → mo_ph M < k → R = mo_seek (dk_P S0 tau s m) k false M → mo_MI (dk_P S0 tau s m) M → rx_B I1 A1 (dk_G S0 tau) ta rl M → rx_K I A I1 A1 → rx_E I1 →
    ty_W L xs (d + 8) 125 0 [some (.inr (.inr (some (94, 0)))), x1.map .inl, x2.map .inl, x3.map .inl, x4.map .inl] [] (rm_s S I1 A1) (rb_p S I A (dk_P S0 tau s m) m0 R) := by
  have hW := dk_PW hU hs
  have hG := dk_PG hU hs
  have hw : mo_wf (dk_G S0 tau) := dk_wf hU
  intro k
  induction k with
  | zero =>
    intro I1 A1 ta rl M x1 x2 x3 x4 hk hph hR hMI hB hK hE
    have := (mo_ph_bound hW.2.1 hMI).1
    omega
  | succ k ih =>
    intro I1 A1 ta rl M x1 x2 x3 x4 hk hph hR hMI hB hK hE
    have hrp1 := rp_K hrp hK
    have hcl0 := hrp1.1.1
    have hanM := mo_an_r hMI
    obtain ⟨st, came, sl, al, ar, V0, todo0, cs, ans⟩ := M
    have hB0 := hB
    obtain ⟨y1, y2, y3, y4, y5, y6, -⟩ := hB
    simp only at y2 y3 y4 y5 y6
    have hMI0 := hMI
    obtain ⟨b1, b2, b3, b4⟩ := hMI
    simp only at b1 b2 b3 b4
    cases cs with
    | nil =>
      have y5 : I1 33 = 0 := y5
      refine ty_aload_n (pc := 0) (i := 0) (ks := []) (by decide +kernel) rfl ?_
      refine ty_getI (pc := 1) (idx := 289) (ci := 13) (f := 33) (by decide +kernel) (by first | rfl | assumption) rfl (by first | exact hS.1 _ _ rfl | assumption) (fun v hv => ?_)
      simp (decide := true) only [rm_I, rm_u, rm_w, ty_sI, ty_sR, ty_sA, ty_sQ, ty_mA, ty_mQ, ↓reduceIte, false_and, and_false, true_and, and_true, and_self] at hv
      subst hv
      -- at 4: .ifCond .le 149
      rw [y5]
      refine ty_if_le (pc := 4) (off := 149) (t := 153) (ks := []) (by decide +kernel) (by omega) (fun hc => ?_) (fun hc => ?_)
      rotate_left
      · omega
      clear hc
      refine ty_iconst (pc := 153) (n := 0) (ks := []) (by decide +kernel) ?_
      -- at 154: .ireturn
      refine ty_ret_i (pc := 154) (ks := []) (ty := .boolean) (by decide +kernel) rfl (ty_fit_z (by omega)) ?_
      refine ⟨0, rfl, I1, A1, rfl, ⟨hK, hE⟩, .inr (.inl ⟨rfl, ?_, y1.1⟩)⟩
      rw [hR, mo_seek_e rfl]
    | cons c cs =>
      obtain ⟨t, i, todo, made, bd, ch, ns, dn, an, aw⟩ := c
      obtain ⟨d1, d2, d3, d4⟩ := b4
      simp only at d1 d2 d3 d4
      have b2' := b2.2.2.2
      rw [List.length_cons] at b2' y5
      have hlen : 0 ≤ (cs.length : Int) ∧ (cs.length : Int) + 1 ≤ 500 := by omega
      have y5 : I1 33 = (cs.length : Int) + 1 := by omega
      obtain ⟨x, nc1, ng1, na1, tl1, c1, c2, c3, c5, c6, c7, put⟩ := rx_put hB0
      obtain ⟨r1, r2, r3, r4, r5, r6, r7, r8⟩ := c1
      simp only at r4 r7 c3 c7
      obtain ⟨hxn, hxta⟩ := rm_t_cell hw c6.2 c6.1 d2.2.2.2 (fun c c0 c1 => (c7 c c0 c1).1.1)
      obtain ⟨-, -, xl, xa, -⟩ := c7 x c6.1 hxn
      rw [hxta] at xl xa
      have hlr : 0 ≤ mo_l (dk_G S0 tau) t ∧ mo_l (dk_G S0 tau) t ≤ 65535 := (hw _ d2.2.2.2.2.1).2.1
      have har : 0 ≤ mo_a (dk_G S0 tau) t ∧ mo_a (dk_G S0 tau) t ≤ 3 := (hw _ d2.2.2.2.2.1).2.2.1
      have hi : 0 ≤ i ∧ i < (m : Int) := ⟨d2.1, d2.2.1⟩
      have hm := hs.1
      have hN := rm_nextFit (L := L) (xs := xs) (S := S) (I := I1) (A := A1) (d + 6) hS hU hs hrp1 ⟨c6.1, by omega⟩ xl hlr xa har (i0 := i + 1) ⟨by omega, by omega⟩
      have sp := mo_next_spec (P := dk_P S0 tau s m) (t := t) (show 0 ≤ i + 1 by omega)
      -- the undoing
      have hun := rm_undo (L := L) (xs := xs) (S := S) (A := A1) (d + 7) hS (to := tl1) c5.1 (I1 32 - tl1).toNat I1 (rr A1) none none none (by omega) (by omega) (by rw [show tl1 + (((I1 32 - tl1).toNat : Nat) : Int) = I1 32 by omega]; exact y3.2)
      rw [rm_rows_self] at hun
      have hun' : ty_C L xs (d + 8) 128 [.inr (.inr (some (94, 0))), .inl (ty_J tl1)] (rm_s S I1 A1) (ty_oV fun S' => S' = rm_s S (rm_u I1 32 tl1) (rm_rows A1 (ru (A1 71) (A1 72) tl1 (I1 32 - tl1).toNat (rr A1)))) := by
        refine ty_enter (ml := 5) (ls := [_, _, _, _, _]) rfl rfl (Nat.le_of_ble_eq_true rfl) ?_
        exact hun
      clear hun
      have hcur : I1 33 - 1 = (cs.length : Int) := by omega
      have hcb : 0 ≤ I1 33 - 1 ∧ I1 33 - 1 < 600 := by omega
      refine ty_aload_n (pc := 0) (i := 0) (ks := []) (by decide +kernel) rfl ?_
      refine ty_getI (pc := 1) (idx := 289) (ci := 13) (f := 33) (by decide +kernel) (by first | rfl | assumption) rfl (by first | exact hS.1 _ _ rfl | assumption) (fun v hv => ?_)
      simp (decide := true) only [rm_I, rm_u, rm_w, ty_sI, ty_sR, ty_sA, ty_sQ, ty_mA, ty_mQ, ↓reduceIte, false_and, and_false, true_and, and_true, and_self] at hv
      subst hv
      -- at 4: .ifCond .le 149
      refine ty_if_le (pc := 4) (off := 149) (t := 153) (ks := []) (by decide +kernel) (by omega) (fun hc => ?_) (fun hc => ?_)
      · omega
      clear hc
      refine ty_aload_n (pc := 7) (i := 0) (ks := []) (by decide +kernel) rfl ?_
      refine ty_getI (pc := 8) (idx := 135) (ci := 13) (f := 11) (by decide +kernel) (by first | rfl | assumption) rfl (by first | exact hS.1 _ _ rfl | assumption) (fun v hv => ?_)
      simp (decide := true) only [rm_I, rm_u, rm_w, ty_sI, ty_sR, ty_sA, ty_sQ, ty_mA, ty_mQ, ↓reduceIte, false_and, and_false, true_and, and_true, and_self] at hv
      subst hv
      -- at 11: .ifCond .ne 142
      rw [y1.1]
      refine ty_if_ne (pc := 11) (off := 142) (t := 153) (ks := []) (by decide +kernel) (by omega) (fun hc => ?_) (fun hc => ?_)
      · exact absurd rfl hc
      clear hc
      refine ty_aload_n (pc := 14) (i := 0) (ks := []) (by decide +kernel) rfl ?_
      refine ty_getI (pc := 15) (idx := 289) (ci := 13) (f := 33) (by decide +kernel) (by first | rfl | assumption) rfl (by first | exact hS.1 _ _ rfl | assumption) (fun v hv => ?_)
      simp (decide := true) only [rm_I, rm_u, rm_w, ty_sI, ty_sR, ty_sA, ty_sQ, ty_mA, ty_mQ, ↓reduceIte, false_and, and_false, true_and, and_true, and_self] at hv
      subst hv
      refine ty_iconst (pc := 18) (n := 1) (ks := []) (by decide +kernel) ?_
      refine ty_isub (pc := 19) (ks := []) (by decide +kernel) ?_
      refine ty_istore_n (pc := 20) (i := 1) (ks := []) (ls' := [_, _, _, _, _]) (by decide +kernel) rfl ?_
      refine ty_aload_n (pc := 21) (i := 0) (ks := []) (by decide +kernel) rfl ?_
      refine ty_getS (b := (83, 0)) (pc := 22) (idx := 105) (ci := 13) (f := 53) (by decide +kernel) (by first | rfl | assumption) rfl (by first | exact hS.1 _ _ rfl | assumption) (by first | exact hS.2.2 _ _ _ _ rfl | assumption) ?_
      refine ty_iload_n (pc := 25) (i := 1) (ks := []) (by decide +kernel) rfl ?_
      refine ty_iaload (pc := 26) (ks := []) (by decide +kernel) (by first | rfl | assumption) (by rfl) (by first | exact hS.1 _ _ rfl | assumption) (by first | exact hS.2.1 _ _ _ rfl | assumption) (by omega) (fun v hv => ?_)
      rw [rm_A (by decide)] at hv
      first | (simp (decide := true) only [rm_w, ty_sI, ty_sR, ty_sA, ty_sQ, ty_mA, ty_mQ, ↓reduceIte, false_and, and_false, true_and, and_true, and_self] at hv) | skip
      subst hv
      refine ty_istore_n (pc := 27) (i := 2) (ks := []) (ls' := [_, _, _, _, _]) (by decide +kernel) rfl ?_
      refine ty_aload_n (pc := 28) (i := 0) (ks := []) (by decide +kernel) rfl ?_
      refine ty_getS (b := (82, 0)) (pc := 29) (idx := 102) (ci := 13) (f := 52) (by decide +kernel) (by first | rfl | assumption) rfl (by first | exact hS.1 _ _ rfl | assumption) (by first | exact hS.2.2 _ _ _ _ rfl | assumption) ?_
      refine ty_iload_n (pc := 32) (i := 1) (ks := []) (by decide +kernel) rfl ?_
      refine ty_iaload (pc := 33) (ks := []) (by decide +kernel) (by first | rfl | assumption) (by rfl) (by first | exact hS.1 _ _ rfl | assumption) (by first | exact hS.2.1 _ _ _ rfl | assumption) (by omega) (fun v hv => ?_)
      rw [rm_A (by decide)] at hv
      first | (simp (decide := true) only [rm_w, ty_sI, ty_sR, ty_sA, ty_sQ, ty_mA, ty_mQ, ↓reduceIte, false_and, and_false, true_and, and_true, and_self] at hv) | skip
      subst hv
      refine ty_istore_n (pc := 34) (i := 3) (ks := []) (ls' := [_, _, _, _, _]) (by decide +kernel) rfl ?_
      refine ty_aload_n (pc := 35) (i := 0) (ks := []) (by decide +kernel) rfl ?_
      refine ty_iload_n (pc := 36) (i := 2) (ks := []) (by decide +kernel) rfl ?_
      refine ty_iconst (pc := 37) (n := 1) (ks := []) (by decide +kernel) ?_
      refine ty_iadd (pc := 38) (ks := []) (by decide +kernel) ?_
      refine ty_iload_n (pc := 39) (i := 3) (ks := []) (by decide +kernel) rfl ?_
      -- at 40: .invokevirtual 286
      rw [hcur, r1, r2]
      refine ty_callv (pc := 40) (idx := 286) (m := 126) (n := 3) (c := 13) (vs := [_, _]) (r := []) (by decide +kernel) rfl rfl (Nat.le_of_ble_eq_true rfl) (by first | rfl | assumption) (by first | exact hS.1 _ _ rfl | assumption) hN ?_
      rintro _ S1 ⟨more, rfl, hmore, rfl⟩
      refine ty_KI ?_
      refine ty_istore (pc := 43) (i := 4) (ks := []) (ls' := [_, _, _, _, _]) (by decide +kernel) rfl ?_
      refine ty_aload_n (pc := 45) (i := 0) (ks := []) (by decide +kernel) rfl ?_
      refine ty_aload_n (pc := 46) (i := 0) (ks := []) (by decide +kernel) rfl ?_
      refine ty_getS (b := (88, 0)) (pc := 47) (idx := 120) (ci := 13) (f := 58) (by decide +kernel) (by first | rfl | assumption) rfl (by first | exact hS.1 _ _ rfl | assumption) (by first | exact hS.2.2 _ _ _ _ rfl | assumption) ?_
      refine ty_iload_n (pc := 50) (i := 1) (ks := []) (by decide +kernel) rfl ?_
      refine ty_iaload (pc := 51) (ks := []) (by decide +kernel) (by first | rfl | assumption) (by rfl) (by first | exact hS.1 _ _ rfl | assumption) (by first | exact hS.2.1 _ _ _ rfl | assumption) (by omega) (fun v hv => ?_)
      rw [rm_A (by decide)] at hv
      first | (simp (decide := true) only [rm_w, ty_sI, ty_sR, ty_sA, ty_sQ, ty_mA, ty_mQ, ↓reduceIte, false_and, and_false, true_and, and_true, and_self] at hv) | skip
      subst hv
      -- at 52: .invokevirtual 259
      rw [r6]
      refine ty_callv (pc := 52) (idx := 259) (m := 128) (n := 2) (c := 13) (vs := [_]) (r := []) (by decide +kernel) rfl rfl (Nat.le_of_ble_eq_true rfl) (by first | rfl | assumption) (by first | exact hS.1 _ _ rfl | assumption) hun' ?_
      rintro _ S1 ⟨rfl, rfl⟩
      refine ty_KV ?_
      have hrr := rr_rows (A := A1) (R := ru (A1 71) (A1 72) tl1 (I1 32 - tl1).toNat (rr A1)) (ru_5 _ _ rr_5)
      generalize hA2 : rm_rows A1 (ru (A1 71) (A1 72) tl1 (I1 32 - tl1).toNat (rr A1)) = A2 at hrr
      have aO : ∀ q, q ≠ 63 → q ≠ 64 → q ≠ 65 → q ≠ 74 → q ≠ 77 → A2 q = A1 q := fun q h1 h2 h3 h4 h5 => by
        rw [← hA2]
        unfold rm_rows
        rw [if_neg h1, if_neg h2, if_neg h3, if_neg h4, if_neg h5]
      clear hA2
      have hmr : 0 ≤ more ∧ more ≤ 12 := by
        rw [hmore]
        split
        · omega
        · rename_i n2
          have := sp.resolve_left n2
          have h2 : mo_next (dk_P S0 tau s m) t (i + 1) < (m : Int) := this.2.1
          omega
      refine ty_aload_n (pc := 55) (i := 0) (ks := []) (by decide +kernel) rfl ?_
      refine ty_aload_n (pc := 56) (i := 0) (ks := []) (by decide +kernel) rfl ?_
      refine ty_getS (b := (85, 0)) (pc := 57) (idx := 111) (ci := 13) (f := 55) (by decide +kernel) (by first | rfl | assumption) rfl (by first | exact hS.1 _ _ rfl | assumption) (by first | exact hS.2.2 _ _ _ _ rfl | assumption) ?_
      refine ty_iload_n (pc := 60) (i := 1) (ks := []) (by decide +kernel) rfl ?_
      refine ty_iaload (pc := 61) (ks := []) (by decide +kernel) (by first | rfl | assumption) (by rfl) (by first | exact hS.1 _ _ rfl | assumption) (by first | exact hS.2.1 _ _ _ rfl | assumption) (by omega) (fun v hv => ?_)
      rw [rm_A (by decide)] at hv
      first | (simp (decide := true) only [rm_w, ty_sI, ty_sR, ty_sA, ty_sQ, ty_mA, ty_mQ, ↓reduceIte, false_and, and_false, true_and, and_true, and_self] at hv) | skip
      subst hv
      refine ty_putI (pc := 62) (idx := 196) (ci := 13) (f := 25) (by decide +kernel) (by first | rfl | assumption) rfl rfl (by first | exact hS.1 _ _ rfl | assumption) ?_
      rw [rm_sI]
      refine ty_aload_n (pc := 65) (i := 0) (ks := []) (by decide +kernel) rfl ?_
      refine ty_aload_n (pc := 66) (i := 0) (ks := []) (by decide +kernel) rfl ?_
      refine ty_getS (b := (86, 0)) (pc := 67) (idx := 114) (ci := 13) (f := 56) (by decide +kernel) (by first | rfl | assumption) rfl (by first | exact hS.1 _ _ rfl | assumption) (by first | exact hS.2.2 _ _ _ _ rfl | assumption) ?_
      refine ty_iload_n (pc := 70) (i := 1) (ks := []) (by decide +kernel) rfl ?_
      refine ty_iaload (pc := 71) (ks := []) (by decide +kernel) (by first | rfl | assumption) (by rfl) (by first | exact hS.1 _ _ rfl | assumption) (by first | exact hS.2.1 _ _ _ rfl | assumption) (by omega) (fun v hv => ?_)
      rw [rm_A (by decide)] at hv
      first | (simp (decide := true) only [rm_w, ty_sI, ty_sR, ty_sA, ty_sQ, ty_mA, ty_mQ, ↓reduceIte, false_and, and_false, true_and, and_true, and_self] at hv) | skip
      subst hv
      refine ty_putI (pc := 72) (idx := 190) (ci := 13) (f := 26) (by decide +kernel) (by first | rfl | assumption) rfl rfl (by first | exact hS.1 _ _ rfl | assumption) ?_
      rw [rm_sI]
      refine ty_aload_n (pc := 75) (i := 0) (ks := []) (by decide +kernel) rfl ?_
      refine ty_aload_n (pc := 76) (i := 0) (ks := []) (by decide +kernel) rfl ?_
      refine ty_getS (b := (87, 0)) (pc := 77) (idx := 117) (ci := 13) (f := 57) (by decide +kernel) (by first | rfl | assumption) rfl (by first | exact hS.1 _ _ rfl | assumption) (by first | exact hS.2.2 _ _ _ _ rfl | assumption) ?_
      refine ty_iload_n (pc := 80) (i := 1) (ks := []) (by decide +kernel) rfl ?_
      refine ty_iaload (pc := 81) (ks := []) (by decide +kernel) (by first | rfl | assumption) (by rfl) (by first | exact hS.1 _ _ rfl | assumption) (by first | exact hS.2.1 _ _ _ rfl | assumption) (by omega) (fun v hv => ?_)
      rw [rm_A (by decide)] at hv
      first | (simp (decide := true) only [rm_w, ty_sI, ty_sR, ty_sA, ty_sQ, ty_mA, ty_mQ, ↓reduceIte, false_and, and_false, true_and, and_true, and_self] at hv) | skip
      subst hv
      refine ty_putI (pc := 82) (idx := 209) (ci := 13) (f := 28) (by decide +kernel) (by first | rfl | assumption) rfl rfl (by first | exact hS.1 _ _ rfl | assumption) ?_
      rw [rm_sI]
      refine ty_aload_n (pc := 85) (i := 0) (ks := []) (by decide +kernel) rfl ?_
      refine ty_aload_n (pc := 86) (i := 0) (ks := []) (by decide +kernel) rfl ?_
      refine ty_getS (b := (89, 0)) (pc := 87) (idx := 123) (ci := 13) (f := 59) (by decide +kernel) (by first | rfl | assumption) rfl (by first | exact hS.1 _ _ rfl | assumption) (by first | exact hS.2.2 _ _ _ _ rfl | assumption) ?_
      refine ty_iload_n (pc := 90) (i := 1) (ks := []) (by decide +kernel) rfl ?_
      refine ty_iaload (pc := 91) (ks := []) (by decide +kernel) (by first | rfl | assumption) (by rfl) (by first | exact hS.1 _ _ rfl | assumption) (by first | exact hS.2.1 _ _ _ rfl | assumption) (by omega) (fun v hv => ?_)
      rw [rm_A (by decide)] at hv
      first | (simp (decide := true) only [rm_w, ty_sI, ty_sR, ty_sA, ty_sQ, ty_mA, ty_mQ, ↓reduceIte, false_and, and_false, true_and, and_true, and_self] at hv) | skip
      subst hv
      refine ty_putI (pc := 92) (idx := 292) (ci := 13) (f := 34) (by decide +kernel) (by first | rfl | assumption) rfl rfl (by first | exact hS.1 _ _ rfl | assumption) ?_
      rw [rm_sI]
      refine ty_aload_n (pc := 95) (i := 0) (ks := []) (by decide +kernel) rfl ?_
      refine ty_aload_n (pc := 96) (i := 0) (ks := []) (by decide +kernel) rfl ?_
      refine ty_getS (b := (90, 0)) (pc := 97) (idx := 126) (ci := 13) (f := 60) (by decide +kernel) (by first | rfl | assumption) rfl (by first | exact hS.1 _ _ rfl | assumption) (by first | exact hS.2.2 _ _ _ _ rfl | assumption) ?_
      refine ty_iload_n (pc := 100) (i := 1) (ks := []) (by decide +kernel) rfl ?_
      refine ty_iaload (pc := 101) (ks := []) (by decide +kernel) (by first | rfl | assumption) (by rfl) (by first | exact hS.1 _ _ rfl | assumption) (by first | exact hS.2.1 _ _ _ rfl | assumption) (by omega) (fun v hv => ?_)
      rw [rm_A (by decide)] at hv
      first | (simp (decide := true) only [rm_w, ty_sI, ty_sR, ty_sA, ty_sQ, ty_mA, ty_mQ, ↓reduceIte, false_and, and_false, true_and, and_true, and_self] at hv) | skip
      subst hv
      refine ty_putI (pc := 102) (idx := 263) (ci := 13) (f := 35) (by decide +kernel) (by first | rfl | assumption) rfl rfl (by first | exact hS.1 _ _ rfl | assumption) ?_
      rw [rm_sI]
      refine ty_aload_n (pc := 105) (i := 0) (ks := []) (by decide +kernel) rfl ?_
      refine ty_getS (b := (83, 0)) (pc := 106) (idx := 105) (ci := 13) (f := 53) (by decide +kernel) (by first | rfl | assumption) rfl (by first | exact hS.1 _ _ rfl | assumption) (by first | exact hS.2.2 _ _ _ _ rfl | assumption) ?_
      refine ty_iload_n (pc := 109) (i := 1) (ks := []) (by decide +kernel) rfl ?_
      refine ty_iload (pc := 110) (i := 4) (ks := []) (by decide +kernel) rfl ?_
      refine ty_iastore (pc := 112) (ks := []) (by decide +kernel) (by first | rfl | assumption) (by rfl) (by first | exact hS.1 _ _ rfl | assumption) (by first | exact hS.2.1 _ _ _ rfl | assumption) (by omega) ?_
      rw [rm_sA (by decide)]
      refine ty_iload (pc := 113) (i := 4) (ks := []) (by decide +kernel) rfl ?_
      refine ty_aload_n (pc := 115) (i := 0) (ks := []) (by decide +kernel) rfl ?_
      refine ty_getI (pc := 116) (idx := 171) (ci := 13) (f := 8) (by decide +kernel) (by first | rfl | assumption) rfl (by first | exact hS.1 _ _ rfl | assumption) (fun v hv => ?_)
      simp (decide := true) only [rm_I, rm_u, rm_w, ty_sI, ty_sR, ty_sA, ty_sQ, ty_mA, ty_mQ, ↓reduceIte, false_and, and_false, true_and, and_true, and_self] at hv
      subst hv
      -- at 119: .if_icmp .ne 13
      rw [aO 85 (by decide) (by decide) (by decide) (by decide) (by decide), aO 86 (by decide) (by decide) (by decide) (by decide) (by decide), aO 87 (by decide) (by decide) (by decide) (by decide) (by decide), aO 89 (by decide) (by decide) (by decide) (by decide) (by decide), aO 90 (by decide) (by decide) (by decide) (by decide) (by decide), r3, r4, r5, r7, r8, hcl0]
      generalize hA3 : rm_w A2 83 cs.length more = A3
      have a3O : ∀ q, q ≠ 63 → q ≠ 64 → q ≠ 65 → q ≠ 74 → q ≠ 77 → q ≠ 83 → A3 q = A1 q := fun q h1 h2 h3 h4 h5 h6 => by
        rw [← hA3, ← aO q h1 h2 h3 h4 h5]
        funext j
        simp [rm_w, h6]
      have a3n : ∀ j : Int, j < cs.length → A3 83 j = A1 83 j := fun j hj => by
        rw [← hA3, ← aO 83 (by decide) (by decide) (by decide) (by decide) (by decide)]
        exact if_neg (by omega)
      have a3c : A3 83 cs.length = more := by
        rw [← hA3]
        simp [rm_w]
      have a3r : rr A3 = ru (A1 71) (A1 72) tl1 (I1 32 - tl1).toNat (rr A1) := by
        rw [← hrr]
        have h3 : ∀ q, q ≠ 83 → A3 q = A2 q := fun q h6 => by
          rw [← hA3]
          funext j
          simp [rm_w, h6]
        exact rr_e (h3 _ (by decide)) (h3 _ (by decide)) (h3 _ (by decide)) (h3 _ (by decide)) (h3 _ (by decide))
      clear hA3 hrr aO
      -- take, and what comes of it
      have fin : ∀ (I3 : Nat → Int) (cs' : List mo_Ch), cs' = (if mo_next (dk_P S0 tau s m) t (i + 1) = -1 then cs else (t, mo_next (dk_P S0 tau s m) t (i + 1), todo, (made, bd, ch, ns, dn, an, aw)) :: cs) → rx_S I3 A3 (dk_G S0 tau) ta rl nc1 ng1 na1 (st, came, sl, al, ar, (made, bd, ch, ns, dn, an, aw), todo, cs', ans) → rm_td (dk_G S0 tau) ta nc1 A3 ng1 (A1 84 cs.length) todo → rx_K I1 A1 I3 A3 → ty_W L xs (d + 8) 125 132 [some (.inr (.inr (some (94, 0)))), some (.inl (ty_J cs.length)), some (.inl (ty_J i)), some (.inl (ty_J x)), some (.inl (ty_J more))] [] (rm_s S I3 A3) (rb_p S I A (dk_P S0 tau s m) m0 R) := by
        intro I3 cs' hcs' hX3 htd3 hK3
        have hMI3 : mo_MI (dk_P S0 tau s m) (st, came, sl, al, ar, (made, bd, ch, ns, dn, an, aw), todo, cs', ans) := by
          refine ⟨b1, ⟨show made ≤ 24 + 24 * st by omega, show ns ≤ st by omega, show an ≤ st by omega, ?_⟩, d3, ?_⟩
          · show (cs'.length : Int) ≤ st
            rw [hcs']
            split
            · omega
            · simp only [List.length_cons]; omega
          · show mo_CI (dk_P S0 tau s m) sl al ar st made ns an cs'
            rw [hcs']
            split
            · exact d4
            · rename_i n2
              obtain ⟨p1, p2, p3⟩ := sp.resolve_left n2
              exact ⟨⟨Int.le_refl _, d1.2.1, Int.le_refl _, Int.le_refl _⟩, ⟨by omega, p2, p3, d2.2.2.2⟩, d3, d4⟩
        have hrp3 := rp_K hrp1 hK3
        have hTk := rx_take (L := L) (xs := xs) (S := S) (d + 1) hS hU hs hrp3 hMI3 hX3 c2.2 c3.2 d1.2.1 (bar := cs.length) (x := x) (behind := A1 84 cs.length) hi d2.2.2.2 d2.2.2.1 ⟨hlen.1, by omega⟩ c6.1 c6.2 htd3
        have hrnd : mo_round (dk_P S0 tau s m) false (st, came, sl, al, ar, V0, todo0, (t, i, todo, (made, bd, ch, ns, dn, an, aw)) :: cs, ans) = mo_fin (dk_P S0 tau s m) (mo_ta (dk_P S0 tau s m) (st, came, sl, al, ar, (made, bd, ch, ns, dn, an, aw), todo, cs', ans) t i cs.length).2.1 (mo_ta (dk_P S0 tau s m) (st, came, sl, al, ar, (made, bd, ch, ns, dn, an, aw), todo, cs', ans) t i cs.length).2.2.1 (mo_bdy (dk_P S0 tau s m) (mo_ta (dk_P S0 tau s m) (st, came, sl, al, ar, (made, bd, ch, ns, dn, an, aw), todo, cs', ans) t i cs.length).2.2.2) an := by
          rw [hcs']
          exact mo_fin_new (n := V0.2.2.2.2.2.1) d1.2.2.2
        have h1I := mo_ta_I hW hMI3 hi d2.2.2.2 d2.2.2.1 (bar := cs.length) ⟨hlen.1, by omega⟩ d1.2.1
        have hfin := mo_fin_I hW (newest := an) h1I.1 h1I.2.1 (mo_bdy_ok hW hG h1I.2.2.2) d3.2.2.2.2.1
        have hph1 := mo_bk_ph hW hMI0 (by simp)
        have hph2 : mo_ph (mo_ta (dk_P S0 tau s m) (st, came, sl, al, ar, (made, bd, ch, ns, dn, an, aw), todo, cs', ans) t i cs.length).2.1 < mo_ph (st, came, sl, al, ar, V0, todo0, (t, i, todo, (made, bd, ch, ns, dn, an, aw)) :: cs, ans) := by
          rw [hcs']
          exact hph1.1
        have hsk := mo_seek_b (P := dk_P S0 tau s m) (k := k) (M := (st, came, sl, al, ar, V0, todo0, (t, i, todo, (made, bd, ch, ns, dn, an, aw)) :: cs, ans)) (by simp)
        rw [hsk, hrnd] at hR
        clear hsk hrnd hph1 h1I
        have hph3 : mo_ph (mo_fin (dk_P S0 tau s m) (mo_ta (dk_P S0 tau s m) (st, came, sl, al, ar, (made, bd, ch, ns, dn, an, aw), todo, cs', ans) t i cs.length).2.1 (mo_ta (dk_P S0 tau s m) (st, came, sl, al, ar, (made, bd, ch, ns, dn, an, aw), todo, cs', ans) t i cs.length).2.2.1 (mo_bdy (dk_P S0 tau s m) (mo_ta (dk_P S0 tau s m) (st, came, sl, al, ar, (made, bd, ch, ns, dn, an, aw), todo, cs', ans) t i cs.length).2.2.2) an).2 < k := by
          have e := hfin.2.2
          unfold mo_ph at hph2 hph ⊢
          rw [e.2]
          omega
        generalize mo_fin (dk_P S0 tau s m) (mo_ta (dk_P S0 tau s m) (st, came, sl, al, ar, (made, bd, ch, ns, dn, an, aw), todo, cs', ans) t i cs.length).2.1 (mo_ta (dk_P S0 tau s m) (st, came, sl, al, ar, (made, bd, ch, ns, dn, an, aw), todo, cs', ans) t i cs.length).2.2.1 (mo_bdy (dk_P S0 tau s m) (mo_ta (dk_P S0 tau s m) (st, came, sl, al, ar, (made, bd, ch, ns, dn, an, aw), todo, cs', ans) t i cs.length).2.2.2) an = r at hTk hfin hR hph3
        obtain ⟨hcode, hMIr, -, -⟩ := hfin
        have a3t : A3 84 cs.length = A1 84 cs.length := congrFun (a3O _ (by decide) (by decide) (by decide) (by decide) (by decide) (by decide)) _
        refine ty_aload_n (pc := 132) (i := 0) (ks := []) (by decide +kernel) rfl ?_
        refine ty_iload_n (pc := 133) (i := 2) (ks := []) (by decide +kernel) rfl ?_
        refine ty_iload_n (pc := 134) (i := 3) (ks := []) (by decide +kernel) rfl ?_
        refine ty_aload_n (pc := 135) (i := 0) (ks := []) (by decide +kernel) rfl ?_
        refine ty_getS (b := (84, 0)) (pc := 136) (idx := 108) (ci := 13) (f := 54) (by decide +kernel) (by first | rfl | assumption) rfl (by first | exact hS.1 _ _ rfl | assumption) (by first | exact hS.2.2 _ _ _ _ rfl | assumption) ?_
        refine ty_iload_n (pc := 139) (i := 1) (ks := []) (by decide +kernel) rfl ?_
        refine ty_iaload (pc := 140) (ks := []) (by decide +kernel) (by first | rfl | assumption) (by rfl) (by first | exact hS.1 _ _ rfl | assumption) (by first | exact hS.2.1 _ _ _ rfl | assumption) (by omega) (fun v hv => ?_)
        rw [rm_A (by decide)] at hv
        first | (simp (decide := true) only [rm_w, ty_sI, ty_sR, ty_sA, ty_sQ, ty_mA, ty_mQ, ↓reduceIte, false_and, and_false, true_and, and_true, and_self] at hv) | skip
        subst hv
        refine ty_iload_n (pc := 141) (i := 1) (ks := []) (by decide +kernel) rfl ?_
        -- at 142: .invokevirtual 295
        rw [a3t]
        refine ty_callv (pc := 142) (idx := 295) (m := 129) (n := 5) (c := 13) (vs := [_, _, _, _]) (r := []) (by decide +kernel) rfl rfl (Nat.le_of_ble_eq_true rfl) (by first | rfl | assumption) (by first | exact hS.1 _ _ rfl | assumption) hTk ?_
        rintro _ S4 ⟨z, rfl, hz, I4, A4, rfl, ⟨hK4, hE4⟩, q⟩
        refine ty_KI ?_
        have hK04 := (hK.trans hK3).trans hK4
        rcases q with ⟨q1, q2⟩ | ⟨q1, q2⟩ | ⟨q1, ta', rl', q2⟩ | ⟨q1, ta', rl', nc', ng', na', q2, q3⟩
        · rw [if_neg (by omega)] at hz
          subst hz
          refine ty_if_eq (pc := 145) (off := 5) (t := 150) (ks := []) (by decide +kernel) (by omega) (fun hc => ?_) (fun hc => ?_)
          rotate_left
          · exact absurd rfl hc
          clear hc
          rw [if_neg (by omega), if_neg (by omega)] at hR
          have res : rb_p S I A (dk_P S0 tau s m) m0 R (.inl (some (.inl (ty_J 0)))) (rm_s S I4 A4) := ⟨0, rfl, I4, A4, rfl, ⟨hK04, hE4⟩, .inr (.inr ⟨rfl, by rw [hR]; exact q1, q2⟩)⟩
          have hch := hE4.1.2
          refine ty_goto (pc := 150) (off := (-150)) (t := 0) (ks := []) (by decide +kernel) ?_
          refine ty_aload_n (pc := 0) (i := 0) (ks := []) (by decide +kernel) rfl ?_
          refine ty_getI (pc := 1) (idx := 289) (ci := 13) (f := 33) (by decide +kernel) (by first | rfl | assumption) rfl (by first | exact hS.1 _ _ rfl | assumption) (fun v hv => ?_)
          simp (decide := true) only [rm_I, rm_u, rm_w, ty_sI, ty_sR, ty_sA, ty_sQ, ty_mA, ty_mQ, ↓reduceIte, false_and, and_false, true_and, and_true, and_self] at hv
          subst hv
          -- at 4: .ifCond .le 149
          refine ty_if_le (pc := 4) (off := 149) (t := 153) (ks := []) (by decide +kernel) (by omega) (fun hc => ?_) (fun hc => ?_)
          · refine ty_iconst (pc := 153) (n := 0) (ks := []) (by decide +kernel) ?_
            -- at 154: .ireturn
            refine ty_ret_i (pc := 154) (ks := []) (ty := .boolean) (by decide +kernel) rfl (ty_fit_z (by omega)) ?_
            exact res
          · clear hc
            refine ty_aload_n (pc := 7) (i := 0) (ks := []) (by decide +kernel) rfl ?_
            refine ty_getI (pc := 8) (idx := 135) (ci := 13) (f := 11) (by decide +kernel) (by first | rfl | assumption) rfl (by first | exact hS.1 _ _ rfl | assumption) (fun v hv => ?_)
            simp (decide := true) only [rm_I, rm_u, rm_w, ty_sI, ty_sR, ty_sA, ty_sQ, ty_mA, ty_mQ, ↓reduceIte, false_and, and_false, true_and, and_true, and_self] at hv
            subst hv
            -- at 11: .ifCond .ne 142
            rw [q2]
            refine ty_if_ne (pc := 11) (off := 142) (t := 153) (ks := []) (by decide +kernel) (by omega) (fun hc => ?_) (fun hc => ?_)
            · refine ty_iconst (pc := 153) (n := 0) (ks := []) (by decide +kernel) ?_
              -- at 154: .ireturn
              refine ty_ret_i (pc := 154) (ks := []) (ty := .boolean) (by decide +kernel) rfl (ty_fit_z (by omega)) ?_
              exact res
            · omega
        · omega
        · rw [if_neg (by omega)] at hz
          subst hz
          refine ty_if_eq (pc := 145) (off := 5) (t := 150) (ks := []) (by decide +kernel) (by omega) (fun hc => ?_) (fun hc => ?_)
          rotate_left
          · exact absurd rfl hc
          clear hc
          rw [if_neg (by omega), if_pos q1] at hR
          refine ty_goto (pc := 150) (off := (-150)) (t := 0) (ks := []) (by decide +kernel) ?_
          -- at 0: .aload_n 0
          exact ih I4 A4 ta' rl' r.2 (some (ty_J cs.length)) (some (ty_J i)) (some (ty_J x)) (some (ty_J more)) (by omega) hph3 hR hMIr q2 hK04 hE4
        · rw [if_pos q1] at hz
          subst hz
          refine ty_if_eq (pc := 145) (off := 5) (t := 150) (ks := []) (by decide +kernel) (by omega) (fun hc => ?_) (fun hc => ?_)
          · omega
          clear hc
          rw [if_pos q1] at hR
          refine ty_iconst (pc := 148) (n := 1) (ks := []) (by decide +kernel) ?_
          -- at 149: .ireturn
          refine ty_ret_i (pc := 149) (ks := []) (ty := .boolean) (by decide +kernel) rfl (ty_fit_z (by omega)) ?_
          exact ⟨1, rfl, I4, A4, rfl, ⟨hK04, hE4⟩, .inl ⟨rfl, k, r.2, ta', rl', nc', ng', na', by omega, hR, hph3, hMIr, q2, q3⟩⟩
      have hKn : ∀ I3 : Nat → Int, I3 7 = I1 7 → I3 8 = I1 8 → I3 9 = I1 9 → I3 38 = I1 38 → rx_K I1 A1 I3 A3 := fun I3 k1 k2 k3 k4 => ⟨⟨k1, k2, k3, k4⟩, a3O _ (by decide) (by decide) (by decide) (by decide) (by decide) (by decide), a3O _ (by decide) (by decide) (by decide) (by decide) (by decide) (by decide), a3O _ (by decide) (by decide) (by decide) (by decide) (by decide) (by decide), a3O _ (by decide) (by decide) (by decide) (by decide) (by decide) (by decide)⟩
      by_cases e1 : mo_next (dk_P S0 tau s m) t (i + 1) = -1
      · rw [if_pos e1] at hmore
        refine ty_icmp_ne (pc := 119) (off := 13) (t := 132) (ks := []) (by decide +kernel) (by omega) (by omega) (fun hc => ?_) (fun hc => ?_)
        · exact absurd hmore hc
        clear hc
        refine ty_aload_n (pc := 122) (i := 0) (ks := []) (by decide +kernel) rfl ?_
        refine ty_dup (pc := 123) (ks := []) (by decide +kernel) rfl ?_
        refine ty_getI (pc := 124) (idx := 289) (ci := 13) (f := 33) (by decide +kernel) (by first | rfl | assumption) rfl (by first | exact hS.1 _ _ rfl | assumption) (fun v hv => ?_)
        simp (decide := true) only [rm_I, rm_u, rm_w, ty_sI, ty_sR, ty_sA, ty_sQ, ty_mA, ty_mQ, ↓reduceIte, false_and, and_false, true_and, and_true, and_self] at hv
        subst hv
        refine ty_iconst (pc := 127) (n := 1) (ks := []) (by decide +kernel) ?_
        refine ty_isub (pc := 128) (ks := []) (by decide +kernel) ?_
        refine ty_putI (pc := 129) (idx := 289) (ci := 13) (f := 33) (by decide +kernel) (by first | rfl | assumption) rfl rfl (by first | exact hS.1 _ _ rfl | assumption) ?_
        rw [rm_sI]
        -- at 132: .aload_n 0
        rw [hcur]
        have hp := put (rm_u (rm_u (rm_u (rm_u (rm_u (rm_u (rm_u I1 32 tl1) 25 nc1) 26 made) 28 ng1) 34 ns) 35 na1) 33 cs.length) A3 more cs (.inl rfl) a3O a3r a3n a3c (fun k h1 h2 h3 h4 h5 h6 h7 => by simp only [rm_u]; rw [if_neg h7, if_neg h6, if_neg h5, if_neg h4, if_neg h3, if_neg h2, if_neg h1]) rfl rfl rfl rfl rfl rfl rfl
        exact fin _ cs (if_pos e1).symm hp.1 hp.2 (hKn _ rfl rfl rfl rfl)
      · rw [if_neg e1] at hmore
        have hlt : more < (m : Int) := by
          rw [hmore]
          exact (sp.resolve_left e1).2.1
        refine ty_icmp_ne (pc := 119) (off := 13) (t := 132) (ks := []) (by decide +kernel) (by omega) (by omega) (fun hc => ?_) (fun hc => ?_)
        rotate_left
        · omega
        clear hc
        have hp := put (rm_u (rm_u (rm_u (rm_u (rm_u (rm_u I1 32 tl1) 25 nc1) 26 made) 28 ng1) 34 ns) 35 na1) A3 more ((t, more, todo, (made, bd, ch, ns, dn, an, aw)) :: cs) (.inr rfl) a3O a3r a3n a3c (fun k h1 h2 h3 h4 h5 h6 h7 => by simp only [rm_u]; rw [if_neg h6, if_neg h5, if_neg h4, if_neg h3, if_neg h2, if_neg h1]) rfl rfl rfl rfl rfl rfl (by rw [List.length_cons]; exact y5.trans (by omega))
        exact fin _ _ (by rw [if_neg e1, hmore]) hp.1 hp.2 (hKn _ rfl rfl rfl rfl)
theorem rx_goback (d : Nat) (hS : ty_st S) (hU : dk_U S0 tau) (hs : dk_s tau s m) {I : Nat → Int} {A : Nat → Int → Int} (hrp : rp I A tau s m) {ta rl : Int → Int} {M : mo_M} {k : Nat} (hph : mo_ph M < k) (hMI : mo_MI (dk_P S0 tau s m) M) (hB : rx_B I A (dk_G S0 tau) ta rl M) (hE : rx_E I) :
    ty_C L xs (d + 9) 125 [.inr (.inr (some (94, 0)))] (rm_s S I A) (rb_p S I A (dk_P S0 tau s m) k (mo_seek (dk_P S0 tau s m) k false M)) := by
  refine ty_enter (ml := 5) (ls := [_, _, _, _, _]) rfl rfl (Nat.le_of_ble_eq_true rfl) ?_
  exact rb_loop d hS hU hs hrp k I A ta rl M none none none none (Nat.le_refl _) hph rfl hMI hB .refl hE
end RXB
