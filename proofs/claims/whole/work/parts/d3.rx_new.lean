/-! A text is put to use, in the reference. -/
section RXN
variable {S0 : ty_S} {tau : dk_T}
/-- a text's nodes as terms -/
def dk_Tt (base : Int) (x : Nat) : Int → Int := fun q => base * 624 + (48 * (x : Int) + q)
theorem dk_bt_T (hU : dk_U S0 tau) {x : Nat} {t : List Int} (ht : tau x = some t) {base : Int} (hb : 0 ≤ base) {mp : Int → Int} (hmp : ∀ u : Nat, u < 26 → mp u = if pv_oc (dk_f t) t.length u = true then base + pv_r (dk_f t) t.length u else -1) : bt_T (dk_G S0 tau) (base + dk_nv t) (dk_Tt base x) (dk_f t) mp (dk_r x t).2.2.2 := by
  intro q as hm
  obtain ⟨h1, h2, h3, h4, h5, h6⟩ := dk_node hU ht hm
  have hnb : dk_nb tau (x : Int) = dk_nv t := by
    unfold dk_nb
    rw [show ((x : Int)).toNat = x by omega, ht]
  have e1 : (dk_Tt base x q) % 624 = 48 * (x : Int) + q := by unfold dk_Tt; omega
  have e2 : (dk_Tt base x q) / 624 = base := by unfold dk_Tt; omega
  have e3 : (48 * (x : Int) + q) / 48 = x := by omega
  refine ⟨⟨by unfold dk_Tt; omega, ?_, ?_⟩, ?_, ?_, fun k a hk => ?_, fun hv => ?_⟩
  · rw [e1]
    exact ⟨x, t, q, as, ht, hm, rfl⟩
  · rw [e1, e2]
    show base + dk_nb tau ((48 * (x : Int) + q) / 48) ≤ _
    rw [e3, hnb]
    exact Int.le_refl _
  · show S0.2.2.1 (19, 0) ((dk_Tt base x q) % 624) = _
    rw [e1]
    exact h2
  · show S0.2.2.1 (20, 0) ((dk_Tt base x q) % 624) = _
    rw [e1]
    exact h3
  · show dk_Tt base x q - (dk_Tt base x q) % 624 + S0.2.2.1 (21, 0) ((dk_Tt base x q) % 624 * 3 + k) = _
    rw [e1, (h5 k a hk).1]
    unfold dk_Tt
    omega
  · obtain ⟨h7, h8⟩ := h6 hv
    show (dk_Tt base x q) / 624 + S0.2.2.1 (22, 0) ((dk_Tt base x q) % 624) = _
    have := hmp (dk_f t q - 65).toNat (by omega)
    rw [if_pos h8, show (((dk_f t q - 65).toNat : Nat) : Int) = dk_f t q - 65 by omega] at this
    rw [e1, e2, h7, this]
/-- its goals -/
theorem bg_bd {G : mo_G} {ta : Int → Int} {nc : Int} {A : Nat → Int → Int} {ng0 behind : Int} {x : Nat} {base b : Int} {gl : List (Int × Int × Int)} (h : bg_seg G ta nc A ng0 behind (gl.map (bg_f (dk_Tt base x) b))) : bg_seg G ta nc A ng0 behind (mo_bd (gl.map (pt_abs x)) base b) := by
  intro i go hi
  unfold mo_bd at hi ⊢
  rw [List.map_map] at hi ⊢
  rw [List.getElem?_map, Option.map_eq_some_iff] at hi
  obtain ⟨g, hg, rfl⟩ := hi
  have := h i (bg_f (dk_Tt base x) b g) (by rw [List.getElem?_map, hg]; rfl)
  rw [List.length_map] at this ⊢
  refine ⟨?_, this.2⟩
  have h1 := this.1
  simp only [Function.comp_apply]
  unfold pt_abs
  by_cases e : g.1 = 33
  · rw [if_pos e]
    rcases h1 with z | z | z
    · exact .inl ⟨rfl, z.2.1, z.2.2⟩
    · exact absurd (show g.1 = 40 from z.1) (by omega)
    · have : g.1 = 61 ∨ g.1 = 126 ∨ g.1 = 60 ∨ g.1 = 63 := by
        rcases z.1 with w | w | w | w
        · exact .inl w.1
        · exact .inr (.inl w.1)
        · exact .inr (.inr (.inl w.1))
        · exact .inr (.inr (.inr w.1))
      omega
  · rw [if_neg e]
    exact h1
/-- new variables, cells and goals -/
theorem rx_new {P : mo_P} (hw : mo_wf P.1) {I I' : Nat → Int} {A A' : Nat → Int → Int} {ta ta' rl : Int → Int} {nc ng na nc' ng' nv : Int} {st came : Int} {sl al ar : Int → Int} {made : Int} {bd : Int → Int} {ch : Int → List Int} {ns : Int} {dn : List Int} {an : Int} {aw : Int → Bool} {todo : List mo_Go} {cs : List mo_Ch} {ans : Int} (hMI : mo_MI P (st, came, sl, al, ar, (made, bd, ch, ns, dn, an, aw), todo, cs, ans)) (h : rx_S I A P.1 ta rl nc ng na (st, came, sl, al, ar, (made, bd, ch, ns, dn, an, aw), todo, cs, ans)) (hnv : 0 ≤ nv)
    (hI : ∀ k, k ≠ 26 → k ≠ 27 → k ≠ 25 → k ≠ 28 → k ≠ 12 → k ≠ 13 → k ≠ 36 → I' k = I k) (hIv : I' 26 = made + nv) (hIb : I' 27 = came + nv) (hIc : I' 25 = nc') (hIg : I' 28 = ng') (hA : ∀ q, q ≠ 63 → q ≠ 64 → q ≠ 65 → q ≠ 58 → q ≠ 60 → q ≠ 61 → q ≠ 62 → q ≠ 56 → q ≠ 66 → q ≠ 67 → q ≠ 68 → q ≠ 69 → q ≠ 70 → q ≠ 78 → q ≠ 79 → A' q = A q)
    (hb : A' 63 = cm_f (A 63) made (made + nv) 2147483647) (hh : A' 64 = cm_f (A 64) made (made + nv) (-1)) (ht : A' 65 = cm_f (A 65) made (made + nv) (-1)) (hn : nc ≤ nc') (hg : ng ≤ ng') (hnr : nc' ≤ 24 + 24 * st) (hgr : ng' ≤ 24 + 24 * st + dn.length) (hc : ∀ c, 0 ≤ c → c < nc → A' 60 c = A 60 c ∧ ta' c = ta c ∧ A' 61 c = A 61 c) (ha : ∀ j, 0 ≤ j → j < nc * 3 → A' 62 j = A 62 j) (hgo : ∀ g, 0 ≤ g → g < ng → A' 66 g = A 66 g ∧ A' 67 g = A 67 g ∧ A' 68 g = A 68 g ∧ A' 69 g = A 69 g ∧ A' 70 g = A 70 g) (hnew : ∀ c, nc ≤ c → c < nc' → rm_cell P.1 (made + nv) ta' nc' A' c) :
    rx_S I' A' P.1 ta' rl nc' ng' na (st, came + nv, sl, al, ar, (made + nv, mo_nb bd made (made + nv), mo_nc ch made (made + nv), ns, dn, an, aw), todo, cs, ans) := by
  obtain ⟨b1, b2, ⟨a1, a2, a3, a4, a5, a6, a7, a8⟩, b4⟩ := hMI
  simp only at b1 b2 a1 a2 a3 a4 a5 a6 a7 a8 b4
  obtain ⟨x1, x2, x3, x4, x5, x6, x7, x8, x9, x10, ⟨v1, v2, v3, v4, v5⟩, x12⟩ := h
  simp only at x2 x3 x4 x5 x6 x7 x8 x9 x10 x12 v1 v2 v3 v4 v5
  have hT : A' 71 = A 71 := hA _ (by decide) (by decide) (by decide) (by decide) (by decide) (by decide) (by decide) (by decide) (by decide) (by decide) (by decide) (by decide) (by decide) (by decide) (by decide)
  have hO : A' 72 = A 72 := hA _ (by decide) (by decide) (by decide) (by decide) (by decide) (by decide) (by decide) (by decide) (by decide) (by decide) (by decide) (by decide) (by decide) (by decide) (by decide)
  have hN : A' 74 = A 74 := hA _ (by decide) (by decide) (by decide) (by decide) (by decide) (by decide) (by decide) (by decide) (by decide) (by decide) (by decide) (by decide) (by decide) (by decide) (by decide)
  have hGo : A' 77 = A 77 := hA _ (by decide) (by decide) (by decide) (by decide) (by decide) (by decide) (by decide) (by decide) (by decide) (by decide) (by decide) (by decide) (by decide) (by decide) (by decide)
  have hSg : A' 73 = A 73 := hA _ (by decide) (by decide) (by decide) (by decide) (by decide) (by decide) (by decide) (by decide) (by decide) (by decide) (by decide) (by decide) (by decide) (by decide) (by decide)
  have hAl : A' 75 = A 75 := hA _ (by decide) (by decide) (by decide) (by decide) (by decide) (by decide) (by decide) (by decide) (by decide) (by decide) (by decide) (by decide) (by decide) (by decide) (by decide)
  have hAr : A' 76 = A 76 := hA _ (by decide) (by decide) (by decide) (by decide) (by decide) (by decide) (by decide) (by decide) (by decide) (by decide) (by decide) (by decide) (by decide) (by decide) (by decide)
  have hC : ∀ q, q = 82 ∨ q = 83 ∨ q = 84 ∨ q = 85 ∨ q = 86 ∨ q = 87 ∨ q = 88 ∨ q = 89 ∨ q = 90 → A' q = A q := by
    rintro q (rfl | rfl | rfl | rfl | rfl | rfl | rfl | rfl | rfl) <;> exact hA _ (by decide) (by decide) (by decide) (by decide) (by decide) (by decide) (by decide) (by decide) (by decide) (by decide) (by decide) (by decide) (by decide) (by decide) (by decide)
  have hi := fun k h1 h2 h3 h4 h5 h6 h7 => hI k h1 h2 h3 h4 h5 h6 h7
  have eT : I' 32 = I 32 := hI _ (by decide) (by decide) (by decide) (by decide) (by decide) (by decide) (by decide)
  have hta : ∀ c, 0 ≤ c → c < nc → ta' c = ta c := fun c c0 c1 => (hc c c0 c1).2.1
  have bO : ∀ v, v < made → A' 63 v = A 63 v := fun v hv => by rw [hb]; exact if_neg (by omega)
  have hOd : ∀ v, v < made → A' 64 v = A 64 v := fun v hv => by rw [hh]; exact if_neg (by omega)
  have tO : ∀ v, v < made → A' 65 v = A 65 v := fun v hv => by rw [ht]; exact if_neg (by omega)
  refine ⟨⟨(hI _ (by decide) (by decide) (by decide) (by decide) (by decide) (by decide) (by decide)).trans x1.1, (hI _ (by decide) (by decide) (by decide) (by decide) (by decide) (by decide) (by decide)).trans x1.2⟩, ⟨(hI _ (by decide) (by decide) (by decide) (by decide) (by decide) (by decide) (by decide)).trans x2.1, x2.2⟩, ⟨by rw [eT]; exact x3.1, by rw [eT, hT]; exact x3.2⟩, ⟨hIv, hIb⟩, ⟨hIc, by omega, hnr⟩, ⟨hIg, by omega, hgr⟩, (hI _ (by decide) (by decide) (by decide) (by decide) (by decide) (by decide) (by decide)).trans x7, (hI _ (by decide) (by decide) (by decide) (by decide) (by decide) (by decide) (by decide)).trans x8, (hI _ (by decide) (by decide) (by decide) (by decide) (by decide) (by decide) (by decide)).trans x9, (hI _ (by decide) (by decide) (by decide) (by decide) (by decide) (by decide) (by decide)).trans x10, ⟨fun c c0 c1 => ?_, fun v v0 v1' => ?_, ⟨fun _ _ _ => rfl, fun v v0 v1' hv => ?_⟩, fun e e0 e1 => ?_, ?_⟩, ?_⟩
  · by_cases e : c < nc
    · have hcell := v1 c c0 e
      have := rm_cell_keep (A' := A') hcell ⟨c0, e⟩ hn hta (hc c c0 e).1 (hc c c0 e).2.2 (fun k k0 k1 => ha _ (by omega) (by omega)) (hw _ hcell.1.2.1).2.2.1.2
      exact ⟨mo_ok_up this.1 (by show made ≤ made + nv; omega), this.2⟩
    · exact hnew c (by omega) c1
  · show rm_b ta' nc' (A' 63 v) (mo_nb bd made (made + nv) v)
    have v1' : v < made + nv := v1'
    unfold mo_nb
    by_cases e : v < made
    · rw [bO v e, if_neg (by omega)]
      exact rm_b_up (v2 v v0 e) hn hta
    · rw [if_pos (by omega), hb]
      exact .inl ⟨rfl, if_pos (by omega)⟩
  · have v1' : v < made + nv := v1'
    have hv : mo_nb bd made (made + nv) v = mo_F := hv
    show mo_lnk (A' 74) (A' 64 v) (mo_nc ch made (made + nv) v) ∧ A' 65 v = mo_last (mo_nc ch made (made + nv) v)
    unfold mo_nc
    unfold mo_nb at hv
    by_cases e : v < made
    · rw [if_neg (by omega)] at hv ⊢
      rw [hOd v e, tO v e, hN]
      exact v3.2 v v0 e hv
    · rw [if_pos (by omega), hh, ht]
      have q1 : cm_f (A 64) made (made + nv) (-1) v = -1 := if_pos (by omega)
      have q2 : cm_f (A 65) made (made + nv) (-1) v = -1 := if_pos (by omega)
      rw [q1, q2]
      exact ⟨rfl, rfl⟩
  · rw [hSg]
    exact ⟨(v4 e e0 e1).1, rm_t_up (v4 e e0 e1).2 hn hta⟩
  · exact rx_A_k v5 hn hta (fun k _ _ => by rw [hAl, hAr]; exact ⟨rfl, rfl⟩) (fun k _ _ => by show A' 77 k = A 77 k; rw [hGo]) (fun _ _ _ => ⟨rfl, rfl⟩) (fun _ _ _ => rfl)
  · rw [eT]
    refine rx_C_k hw (Int.le_refl st) (Int.le_refl _) cs made ns an nc ng na (I 32) _ _ _ _ b4 x12 ⟨fun c c0 c1 => ⟨(hc c c0 c1).2.1, (hc c c0 c1).1, (hc c c0 c1).2.2⟩, ha, hgo, fun _ _ _ => by rw [hSg], fun _ _ _ => by rw [hAl, hAr]; exact ⟨rfl, rfl⟩, fun k _ _ => ?_, fun to t0 t1 r i hin => ?_⟩ (fun _ _ _ => rfl) (fun _ _ _ => ⟨rfl, rfl⟩) (fun _ _ _ => rfl) hn hg (Int.le_refl _) (Int.le_refl _) (Int.le_refl _)
    · rw [hC _ (by simp), hC _ (by simp), hC _ (by simp), hC _ (by simp), hC _ (by simp), hC _ (by simp), hC _ (by simp), hC _ (by simp), hC _ (by simp)]
      exact ⟨rfl, rfl, rfl, rfl, rfl, rfl, rfl, rfl, rfl⟩
    · rw [hT, hO]
      refine ru_pt _ _ _ ?_
      rcases hin.2 with ⟨z, z2⟩ | ⟨rfl, z2⟩ | ⟨rfl, z2⟩
      · rcases (show r = 0 ∨ r = 1 ∨ r = 2 by omega) with rfl | rfl | rfl
        · exact bO i z2
        · exact hOd i z2
        · exact tO i z2
      · show A' 74 i = A 74 i
        rw [hN]
      · show A' 77 i = A 77 i
        rw [hGo]
end RXN
