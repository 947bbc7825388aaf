/-! Values in the reference; a variable is tied; sleepers follow. -/
/-- z stands for the value y -/
def rm_v (ta : Int → Int) (nc : Int) (z y : Int) : Prop := (z < 0 ∧ z = y) ∨ (0 ≤ z ∧ z < nc ∧ 0 ≤ y ∧ ta z = y)
/-- what is bound -/
def rm_b (ta : Int → Int) (nc : Int) (b y : Int) : Prop := (y = mo_F ∧ b = 2147483647) ∨ (y ≠ mo_F ∧ rm_v ta nc b y)
theorem rm_v_up {ta ta' : Int → Int} {nc nc' z y : Int} (h : rm_v ta nc z y) (hn : nc ≤ nc') (he : ∀ c, 0 ≤ c → c < nc → ta' c = ta c) : rm_v ta' nc' z y := by
  rcases h with z | ⟨z1, z2, z3, z4⟩
  · exact .inl z
  · exact .inr ⟨z1, by omega, z3, by rw [he _ z1 z2]; exact z4⟩
theorem rm_b_up {ta ta' : Int → Int} {nc nc' z y : Int} (h : rm_b ta nc z y) (hn : nc ≤ nc') (he : ∀ c, 0 ≤ c → c < nc → ta' c = ta c) : rm_b ta' nc' z y := by
  rcases h with z | ⟨z1, z2⟩
  · exact .inl z
  · exact .inr ⟨z1, rm_v_up z2 hn he⟩
def mo_vv (bd : Int → Int) (y : Int) : Int := if y < 0 then mo_dv bd (-1 - y) else y
theorem mo_vv_nf {G : mo_G} (hw : mo_wf G) {made : Int} {bd : Int → Int} {t : Int} (ht : mo_ok G made t) : mo_vv bd (rm_nf G t) = mo_val G bd t := by
  have h0 := ht.1
  unfold mo_vv rm_nf mo_val
  rw [if_neg (show ¬ t < 0 by omega)]
  by_cases e : 65 ≤ mo_l G t ∧ mo_l G t ≤ 90
  · have := mo_ok_var hw ht e
    rw [if_pos e, if_pos e, if_pos (by omega), show -1 - (-1 - mo_v G t) = mo_v G t by omega]
  · rw [if_neg e, if_neg e, if_neg (by omega)]
theorem rm_t_v {G : mo_G} (hw : mo_wf G) {made : Int} {ta : Int → Int} {nc x t : Int} (ht : mo_ok G made t) (hta : ∀ c, 0 ≤ c → c < nc → 0 ≤ ta c) (h : rm_t G ta nc x t) : rm_v ta nc x (rm_nf G t) ∧ (x < 0 → -1 - x < made) := by
  rcases h with ⟨z1, z2⟩ | ⟨z1, z2, z3⟩
  · refine ⟨.inl ⟨z1, z2⟩, fun _ => ?_⟩
    unfold rm_nf at z2
    by_cases e : 65 ≤ mo_l G t ∧ mo_l G t ≤ 90
    · have := mo_ok_var hw ht e
      rw [if_pos e] at z2
      omega
    · rw [if_neg e] at z2
      have := ht.1
      omega
  · have := hta x z1 z2
    exact ⟨.inr ⟨z1, z2, by omega, z3⟩, fun q => by omega⟩
section RMVA
variable {L : Nat} {xs : Nat → Int32} {S : ty_S} {I : Nat → Int} {A : Nat → Int → Int}
theorem rm_value_loop (d : Nat) (hS : ty_st S) {G : mo_G} {made nc : Int} {ta bd : Int → Int} (hb : mo_bw G made bd) (hrv : ∀ v, 0 ≤ v → v < made → rm_b ta nc (A 63 v) (bd v)) (hnc : nc ≤ 24000) (hmade : made ≤ 13000) {t : Int32} : ∀ (m : Nat) (x y : Int), (-x).toNat < m → rm_v ta nc x y → (x < 0 → -1 - x < made) →
    ty_W L xs d 134 2 [some (.inr (.inr (some (94, 0)))), some (.inl t), some (.inl (ty_J x))] [] (rm_s S I A) (ty_oI fun z S' => rm_v ta nc z (mo_vv bd y) ∧ S' = rm_s S I A) := by
  intro m
  induction m with
  | zero => intro x y h; omega
  | succ m ih =>
    intro x y hm hx hxr
    have hxx : -13000 ≤ x ∧ x < 24000 := by
      rcases hx with q | q
      · have := hxr q.1
        omega
      · omega
    refine ty_iload_n (pc := 2) (i := 2) (ks := []) (by decide +kernel) rfl ?_
    -- at 3: .ifCond .ge 28
    refine ty_if_ge (pc := 3) (off := 28) (t := 31) (ks := []) (by decide +kernel) (by omega) (fun hc => ?_) (fun hc => ?_)
    · refine ty_iload_n (pc := 31) (i := 2) (ks := []) (by decide +kernel) rfl ?_
      -- at 32: .ireturn
      refine ty_ret_i (pc := 32) (ks := []) (ty := .int) (by decide +kernel) rfl rfl ?_
      refine ⟨x, rfl, ?_, rfl⟩
      rcases hx with q | q
      · omega
      · unfold mo_vv
        rw [if_neg (by omega)]
        exact .inr q
    · have hlt := hxr hc
      have hy : x = y := by
        rcases hx with q | q
        · exact q.2
        · omega
      subst hy
      have hv := hrv (-1 - x) (by omega) hlt
      have hstep := mo_dv_step hb (v := -1 - x) (by omega) hlt
      have hvv : mo_vv bd x = mo_dv bd (-1 - x) := if_pos hc
      rw [hvv, hstep]
      have hbr : -13000 ≤ A 63 (-1 - x) ∧ A 63 (-1 - x) ≤ 2147483647 := by
        rcases hv with q | ⟨q0, q | q⟩
        · omega
        · rcases hb (-1 - x) (by omega) hlt with w | w | w
          · exact absurd w q0
          · omega
          · omega
        · omega
      refine ty_aload_n (pc := 6) (i := 0) (ks := []) (by decide +kernel) rfl ?_
      refine ty_getS (b := (63, 0)) (pc := 7) (idx := 45) (ci := 13) (f := 17) (by decide +kernel) (by first | rfl | assumption) rfl (by first | exact hS.1 _ _ rfl | assumption) (by first | exact hS.2.2 _ _ _ _ rfl | assumption) ?_
      refine ty_iconst (pc := 10) (n := (-1)) (ks := []) (by decide +kernel) ?_
      refine ty_iload_n (pc := 11) (i := 2) (ks := []) (by decide +kernel) rfl ?_
      refine ty_isub (pc := 12) (ks := []) (by decide +kernel) ?_
      refine ty_iaload (pc := 13) (ks := []) (by decide +kernel) (by first | rfl | assumption) (by rfl) (by first | exact hS.1 _ _ rfl | assumption) (by first | exact hS.2.1 _ _ _ rfl | assumption) (by omega) (fun v hv => ?_)
      rw [rm_A (by decide)] at hv
      first | (simp (decide := true) only [rm_w, ty_sI, ty_sR, ty_sA, ty_sQ, ty_mA, ty_mQ, ↓reduceIte, false_and, and_false, true_and, and_true, and_self] at hv) | skip
      subst hv
      refine ty_ldc (pc := 14) (idx := 193) (c := 2147483647) (z := 2147483647) (by decide +kernel) (by decide +kernel) ?_
      -- at 16: .if_icmp .eq 15
      refine ty_icmp_eq (pc := 16) (off := 15) (t := 31) (ks := []) (by decide +kernel) (by omega) (by omega) (fun hc => ?_) (fun hc => ?_)
      · refine ty_iload_n (pc := 31) (i := 2) (ks := []) (by decide +kernel) rfl ?_
        -- at 32: .ireturn
        refine ty_ret_i (pc := 32) (ks := []) (ty := .int) (by decide +kernel) rfl rfl ?_
        refine ⟨x, rfl, ?_, rfl⟩
        rcases hv with q | ⟨q0, q | q⟩
        · rw [if_pos q.1]
          exact .inl ⟨by assumption, by omega⟩
        · omega
        · omega
      · refine ty_aload_n (pc := 19) (i := 0) (ks := []) (by decide +kernel) rfl ?_
        refine ty_getS (b := (63, 0)) (pc := 20) (idx := 45) (ci := 13) (f := 17) (by decide +kernel) (by first | rfl | assumption) rfl (by first | exact hS.1 _ _ rfl | assumption) (by first | exact hS.2.2 _ _ _ _ rfl | assumption) ?_
        refine ty_iconst (pc := 23) (n := (-1)) (ks := []) (by decide +kernel) ?_
        refine ty_iload_n (pc := 24) (i := 2) (ks := []) (by decide +kernel) rfl ?_
        refine ty_isub (pc := 25) (ks := []) (by decide +kernel) ?_
        refine ty_iaload (pc := 26) (ks := []) (by decide +kernel) (by first | rfl | assumption) (by rfl) (by first | exact hS.1 _ _ rfl | assumption) (by first | exact hS.2.1 _ _ _ rfl | assumption) (by omega) (fun v hv => ?_)
        rw [rm_A (by decide)] at hv
        first | (simp (decide := true) only [rm_w, ty_sI, ty_sR, ty_sA, ty_sQ, ty_mA, ty_mQ, ↓reduceIte, false_and, and_false, true_and, and_true, and_self] at hv) | skip
        subst hv
        refine ty_istore_n (pc := 27) (i := 2) (ks := []) (ls' := [_, _, _]) (by decide +kernel) rfl ?_
        refine ty_goto (pc := 28) (off := (-26)) (t := 2) (ks := []) (by decide +kernel) ?_
        -- at 2: .iload_n 2
        rcases hv with q | ⟨q0, q⟩
        · omega
        · rw [if_neg q0]
          have := ih (A 63 (-1 - x)) (bd (-1 - x)) ?_ q ?_
          · by_cases e : 0 ≤ bd (-1 - x)
            · rw [if_pos e]
              have e2 : mo_vv bd (bd (-1 - x)) = bd (-1 - x) := if_neg (by omega)
              rw [e2] at this
              exact this
            · rw [if_neg e]
              have e2 : mo_vv bd (bd (-1 - x)) = mo_dv bd (-1 - bd (-1 - x)) := if_pos (by omega)
              rw [e2] at this
              exact this
          · rcases q with q | q
            · rcases hb (-1 - x) (by omega) hlt with w | w | w
              · exact absurd w q0
              · omega
              · omega
            · omega
          · intro hneg
            rcases q with q | q
            · rcases hb (-1 - x) (by omega) hlt with w | w | w
              · exact absurd w q0
              · omega
              · omega
            · omega
theorem rm_value (d : Nat) (hS : ty_st S) {G : mo_G} {made nc : Int} {ta bd : Int → Int} (hb : mo_bw G made bd) (hrv : ∀ v, 0 ≤ v → v < made → rm_b ta nc (A 63 v) (bd v)) (hnc : nc ≤ 24000) (hmade : made ≤ 13000) {x y : Int} (hx : rm_v ta nc x y) (hxr : x < 0 → -1 - x < made) :
    ty_C L xs (d + 1) 134 [.inr (.inr (some (94, 0))), .inl (ty_J x)] (rm_s S I A) (ty_oI fun z S' => rm_v ta nc z (mo_vv bd y) ∧ S' = rm_s S I A) := by
  refine ty_enter (ml := 3) (ls := [_, _, _]) rfl rfl (Nat.le_of_ble_eq_true rfl) ?_
  refine ty_iload_n (pc := 0) (i := 1) (ks := []) (by decide +kernel) rfl ?_
  refine ty_istore_n (pc := 1) (i := 2) (ks := []) (ls' := [_, _, _]) (by decide +kernel) rfl ?_
  -- at 2: .iload_n 2
  exact rm_value_loop d hS hb hrv hnc hmade _ x y (Nat.lt_succ_self _) hx hxr
theorem rr_w {A : Nat → Int → Int} {r s : Nat} {i v : Int} (h : r = 0 ∧ s = 63 ∨ r = 1 ∧ s = 64 ∨ r = 2 ∧ s = 65 ∨ r = 3 ∧ s = 74 ∨ r = 4 ∧ s = 77) : rr (rm_w A s i v) = rm_w (rr A) r i v := by
  funext q j
  rcases h with ⟨rfl, rfl⟩ | ⟨rfl, rfl⟩ | ⟨rfl, rfl⟩ | ⟨rfl, rfl⟩ | ⟨rfl, rfl⟩
  all_goals
    by_cases e0 : q = 0
    · subst e0; simp [rm_w, rr]
    by_cases e1 : q = 1
    · subst e1; simp [rm_w, rr]
    by_cases e2 : q = 2
    · subst e2; simp [rm_w, rr]
    by_cases e3 : q = 3
    · subst e3; simp [rm_w, rr]
    by_cases e4 : q = 4
    · subst e4; simp [rm_w, rr]
    simp [rm_w, rr, e0, e1, e2, e3, e4]
/-- writes elsewhere leave the rows -/
theorem rr_e {A A' : Nat → Int → Int} (h0 : A' 63 = A 63) (h1 : A' 64 = A 64) (h2 : A' 65 = A 65) (h3 : A' 74 = A 74) (h4 : A' 77 = A 77) : rr A' = rr A := by
  unfold rr
  rw [h0, h1, h2, h3, h4]
theorem rm_w_w {A : Nat → Int → Int} {s : Nat} {i v w : Int} : rm_w (rm_w A s i v) s i w = rm_w A s i w := by
  funext q j
  unfold rm_w
  split <;> rfl
theorem rm_w_id {A : Nat → Int → Int} {s : Nat} {i v : Int} (h : A s i = v) : rm_w A s i v = A := by
  funext q j
  unfold rm_w
  split
  · next z => rw [z.1, z.2, h]
  · rfl
/-- one entry, and the change that it tells of -/
theorem rt_ud_1 {A A' : Nat → Int → Int} {tl w old x : Int} {r s : Nat} (h : r = 0 ∧ s = 63 ∨ r = 1 ∧ s = 64 ∨ r = 2 ∧ s = 65 ∨ r = 3 ∧ s = 74 ∨ r = 4 ∧ s = 77) (hA : A' = rm_w (rm_w (rm_w A 71 tl (w * 5 + r)) 72 tl old) s w x) (ho : A s w = old) : rt_ud A tl A' (tl + 1) := by
  have hs : s ≠ 71 ∧ s ≠ 72 ∧ r < 5 := by rcases h with ⟨rfl, rfl⟩ | ⟨rfl, rfl⟩ | ⟨rfl, rfl⟩ | ⟨rfl, rfl⟩ | ⟨rfl, rfl⟩ <;> decide
  have hat : ∀ j, A' 71 j = if j = tl then w * 5 + r else A 71 j := fun j => by
    rw [hA]
    simp [rm_w, Ne.symm hs.1]
  have hol : ∀ j, A' 72 j = if j = tl then old else A 72 j := fun j => by
    rw [hA]
    simp [rm_w, Ne.symm hs.2.1]
  refine rt_ud_of (k := 1) (fun j hj => ⟨by rw [hat, if_neg (by omega)], by rw [hol, if_neg (by omega)]⟩) ?_
  show rm_w (rr A') (A' 71 (tl + ((0 : Nat) : Int)) % 5).toNat (A' 71 (tl + ((0 : Nat) : Int)) / 5) (A' 72 (tl + ((0 : Nat) : Int))) = rr A
  rw [show tl + ((0 : Nat) : Int) = tl by omega, hat, hol, if_pos rfl, if_pos rfl, show ((w * 5 + (r : Int)) % 5).toNat = r by omega, show (w * 5 + (r : Int)) / 5 = w by omega, hA, rr_w h, rm_w_w]
  have e : rr (rm_w (rm_w A 71 tl (w * 5 + r)) 72 tl old) = rr A := rr_e rfl rfl rfl rfl rfl
  rw [e]
  refine rm_w_id ?_
  rcases h with ⟨rfl, rfl⟩ | ⟨rfl, rfl⟩ | ⟨rfl, rfl⟩ | ⟨rfl, rfl⟩ | ⟨rfl, rfl⟩ <;> exact ho
theorem rm_tie (d : Nat) (hS : ty_st S) {v t tl : Int} (ht : I 32 = tl) (hr : 0 ≤ tl ∧ tl < 6000) (hv : 0 ≤ v ∧ v < 13000) (hf : A 63 v = 2147483647) (hok : rt_ok (A 71) tl) : ty_C L xs (d + 2) 135 [.inr (.inr (some (94, 0))), .inl (ty_J v), .inl (ty_J t)] (rm_s S I A) (ty_oV fun S' => ∃ A', S' = rm_s S (rm_u (rm_u I 32 (tl + 1)) 39 1) A' ∧ A' 63 = mo_up (A 63) v t ∧ (∀ q, q ≠ 63 → q ≠ 71 → q ≠ 72 → A' q = A q) ∧ rt_ud A tl A' (tl + 1) ∧ rt_ok (A' 71) (tl + 1)) := by
  refine ty_enter (ml := 3) (ls := [_, _, _]) rfl rfl (Nat.le_of_ble_eq_true rfl) ?_
  refine ty_aload_n (pc := 0) (i := 0) (ks := []) (by decide +kernel) rfl ?_
  refine ty_iload_n (pc := 1) (i := 1) (ks := []) (by decide +kernel) rfl ?_
  refine ty_iconst (pc := 2) (n := 5) (ks := []) (by decide +kernel) ?_
  refine ty_imul (pc := 3) (ks := []) (by decide +kernel) ?_
  refine ty_ldc (pc := 4) (idx := 193) (c := 2147483647) (z := 2147483647) (by decide +kernel) (by decide +kernel) ?_
  -- at 6: .invokevirtual 225
  refine ty_callv (pc := 6) (idx := 225) (m := 136) (n := 3) (c := 13) (vs := [_, _]) (r := []) (by decide +kernel) rfl rfl (Nat.le_of_ble_eq_true rfl) (by first | rfl | assumption) (by first | exact hS.1 _ _ rfl | assumption) (rm_change d hS ht hr) ?_
  rintro _ S1 ⟨rfl, rfl⟩
  refine ty_KV ?_
  refine ty_aload_n (pc := 9) (i := 0) (ks := []) (by decide +kernel) rfl ?_
  refine ty_getS (b := (63, 0)) (pc := 10) (idx := 45) (ci := 13) (f := 17) (by decide +kernel) (by first | rfl | assumption) rfl (by first | exact hS.1 _ _ rfl | assumption) (by first | exact hS.2.2 _ _ _ _ rfl | assumption) ?_
  refine ty_iload_n (pc := 13) (i := 1) (ks := []) (by decide +kernel) rfl ?_
  refine ty_iload_n (pc := 14) (i := 2) (ks := []) (by decide +kernel) rfl ?_
  refine ty_iastore (pc := 15) (ks := []) (by decide +kernel) (by first | rfl | assumption) (by rfl) (by first | exact hS.1 _ _ rfl | assumption) (by first | exact hS.2.1 _ _ _ rfl | assumption) (by omega) ?_
  rw [rm_sA (by decide)]
  refine ty_aload_n (pc := 16) (i := 0) (ks := []) (by decide +kernel) rfl ?_
  refine ty_iconst (pc := 17) (n := 1) (ks := []) (by decide +kernel) ?_
  refine ty_putZ (pc := 18) (idx := 228) (ci := 13) (f := 39) (by decide +kernel) (by first | rfl | assumption) rfl rfl (by first | exact hS.1 _ _ rfl | assumption) (by omega) ?_
  rw [rm_sI]
  -- at 21: .return_
  refine ty_ret_v (pc := 21) (ks := []) (by decide +kernel) rfl ?_
  refine ⟨rfl, _, rfl, ?_, fun q h1 h2 h3 => ?_, rt_ud_1 (r := 0) (s := 63) (w := v) (old := 2147483647) (x := t) (by simp) (by rw [show v * 5 + ((0 : Nat) : Int) = v * 5 by omega]) hf, fun j j0 j1 => ?_⟩
  · funext j
    simp [rm_w, mo_up]
  · funext j
    simp [rm_w, h1, h2, h3]
  · show _ ∧ _
    have e : ∀ x y z, (rm_w (rm_w (rm_w A 71 tl (v * 5)) 72 x y) 63 v z) 71 j = if j = tl then v * 5 else A 71 j := fun x y z => by simp [rm_w]
    rw [e]
    by_cases e1 : j = tl
    · rw [if_pos e1]
      omega
    · rw [if_neg e1]
      exact hok j j0 (by omega)
end RMVA
