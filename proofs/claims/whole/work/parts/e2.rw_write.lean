/-! The reference writes. -/
theorem tk_app {m : Nat} {xs xs' ys ys' : List Int} (h : xs.take m = xs'.take m) (g : ys.take m = ys'.take m) : (xs ++ ys).take m = (xs' ++ ys').take m := by
  have hl := congrArg List.length h
  rw [List.length_take, List.length_take] at hl
  rw [List.take_append, List.take_append, h]
  by_cases e : m ≤ xs.length
  · rw [show m - xs.length = 0 by omega, show m - xs'.length = 0 by omega, List.take_zero, List.take_zero]
  · have e2 : xs'.length = xs.length := by omega
    have t1 : ∀ zs : List Int, zs.take (m - xs.length) = (zs.take m).take (m - xs.length) := fun zs => by
      rw [List.take_take, Nat.min_eq_left (by omega)]
    rw [e2, t1 ys, t1 ys', g]
theorem tk_wa {G : mo_G} {rd rd' : Int → List Int} {v : Int} {m : Nat} (h : ∀ x, (rd x).take m = (rd' x).take m) {c : List Int} : ∀ (r : Nat) (k : Int), (mo_wa G rd v r k ++ c).take m = (mo_wa G rd' v r k ++ c).take m
  | 0, _ => rfl
  | r + 1, k => by
    have e := fun rd : Int → List Int => show mo_wa G rd v (r + 1) k ++ c = [if k = 0 then 40 else 44] ++ (rd (mo_g G v k) ++ (mo_wa G rd v r (k + 1) ++ c)) by
      show (if k = 0 then (40 : Int) else 44) :: (rd (mo_g G v k) ++ mo_wa G rd v r (k + 1)) ++ c = _
      simp
    rw [e rd, e rd']
    exact tk_app rfl (tk_app (h _) (tk_wa h r (k + 1)))
theorem tk_wr {G : mo_G} {bd : Int → Int} : ∀ (f m : Nat) (t : Int), m ≤ 2 * f → (mo_wr G bd f t).take m = (mo_wr G bd (f + 1) t).take m
  | 0, m, t, h => by
    rw [show m = 0 by omega, List.take_zero, List.take_zero]
  | f + 1, m, t, h => by
    have u : ∀ f, mo_wr G bd (f + 1) t = if mo_val G bd t < 0 then [95] else mo_l G (mo_val G bd t) :: (mo_wa G (mo_wr G bd f) (mo_val G bd t) (mo_a G (mo_val G bd t)).toNat 0 ++ (if 0 < mo_a G (mo_val G bd t) then [41] else [])) := fun _ => rfl
    rw [u f, u (f + 1)]
    by_cases e : mo_val G bd t < 0
    · rw [if_pos e, if_pos e]
    · rw [if_neg e, if_neg e]
      generalize mo_val G bd t = v
      cases hr : (mo_a G v).toNat with
      | zero => rfl
      | succ r =>
        generalize (if 0 < mo_a G v then [(41 : Int)] else []) = c
        cases m with
        | zero => rfl
        | succ m =>
          cases m with
          | zero => rfl
          | succ m =>
            show mo_l G v :: 40 :: ((mo_wr G bd f (mo_g G v 0) ++ mo_wa G (mo_wr G bd f) v r (0 + 1)) ++ c).take m = mo_l G v :: 40 :: ((mo_wr G bd (f + 1) (mo_g G v 0) ++ mo_wa G (mo_wr G bd (f + 1)) v r (0 + 1)) ++ c).take m
            have ih := fun x => tk_wr (G := G) (bd := bd) f m x (by omega)
            rw [List.append_assoc, List.append_assoc, tk_app (ih _) (tk_wa ih r (0 + 1))]
theorem mo_ap_tk {ws xs xs' ys : List Int} (h : xs.take 80 = xs'.take 80) : mo_ap ws (xs ++ ys) = mo_ap ws (xs' ++ ys) := by
  unfold mo_ap
  exact tk_app rfl (tk_app h rfl)
/-- on the pile: a sign, or a term -/
abbrev rw_it : Type := Int ⊕ Int
def rw_o (G : mo_G) (bd : Int → Int) : rw_it → List Int
  | .inl c => [c]
  | .inr t => mo_wr G bd 40 t
def rw_out (G : mo_G) (bd : Int → Int) : List rw_it → List Int
  | [] => []
  | it :: its => rw_o G bd it ++ rw_out G bd its
theorem rw_out_app {G : mo_G} {bd : Int → Int} {b : List rw_it} : ∀ (a : List rw_it), rw_out G bd (a ++ b) = rw_out G bd a ++ rw_out G bd b
  | [] => rfl
  | it :: a => by
    show rw_o G bd it ++ rw_out G bd (a ++ b) = rw_o G bd it ++ rw_out G bd a ++ rw_out G bd b
    rw [rw_out_app a, List.append_assoc]
def rw_i (G : mo_G) (made : Int) (bd ta : Int → Int) (nc : Int) (x : Int) : rw_it → Prop
  | .inl c => x = 100000 + c ∧ 0 ≤ c ∧ c ≤ 126
  | .inr t => ∃ y, rm_v ta nc x y ∧ (x < 0 → -1 - x < made) ∧ mo_vv bd y = mo_val G bd t ∧ (mo_ok G made t ∨ (t < 0 ∧ -1 - t < made))
def rw_P (G : mo_G) (made : Int) (bd ta : Int → Int) (nc : Int) (pf : Int → Int) : Int → List rw_it → Prop
  | n, [] => n = 0
  | n, it :: its => 0 < n ∧ rw_i G made bd ta nc (pf (n - 1)) it ∧ rw_P G made bd ta nc pf (n - 1) its
theorem rw_P_eq {G : mo_G} {made : Int} {bd ta : Int → Int} {nc : Int} {pf pf' : Int → Int} : ∀ (its : List rw_it) (n : Int), (∀ j, j < n → pf' j = pf j) → rw_P G made bd ta nc pf n its → rw_P G made bd ta nc pf' n its
  | [], _, _, h => h
  | it :: its, n, he, h => ⟨h.1, by rw [he _ (by omega)]; exact h.2.1, rw_P_eq its (n - 1) (fun j hj => he j (by omega)) h.2.2⟩
theorem rw_P_put {G : mo_G} {made : Int} {bd ta : Int → Int} {nc : Int} {pf : Int → Int} {its : List rw_it} {n x : Int} {it : rw_it} (hn : 0 ≤ n) (h : rw_P G made bd ta nc pf n its) (hi : rw_i G made bd ta nc x it) : rw_P G made bd ta nc (mo_up pf n x) (n + 1) (it :: its) := by
  refine ⟨by omega, ?_, ?_⟩
  · rw [show n + 1 - 1 = n by omega]
    have e : mo_up pf n x n = x := if_pos rfl
    rw [e]
    exact hi
  · rw [show n + 1 - 1 = n by omega]
    exact rw_P_eq its n (fun j hj => if_neg (by omega)) h
theorem rw_P_len {G : mo_G} {made : Int} {bd ta : Int → Int} {nc : Int} {pf : Int → Int} : ∀ (its : List rw_it) (n : Int), rw_P G made bd ta nc pf n its → n = its.length
  | [], _, h => h
  | it :: its, n, h => by
    have := rw_P_len its _ h.2.2
    rw [List.length_cons]
    omega
def rw_W (I : Nat → Int) (A : Nat → Int → Int) (ws : List Int) : Prop := I 63 = ws.length ∧ ws.length ≤ 80 ∧ mo_at (A 91) 0 ws
/-- nothing else has changed -/
def rw_f (I : Nat → Int) (A : Nat → Int → Int) (I' : Nat → Int) (A' : Nat → Int → Int) : Prop := (∀ k, k ≠ 63 → I' k = I k) ∧ ∀ q, q ≠ 91 → q ≠ 92 → A' q = A q
theorem rw_f.trans {I I1 I2 : Nat → Int} {A A1 A2 : Nat → Int → Int} (h : rw_f I A I1 A1) (g : rw_f I1 A1 I2 A2) : rw_f I A I2 A2 := ⟨fun k hk => (g.1 k hk).trans (h.1 k hk), fun q h1 h2 => (g.2 q h1 h2).trans (h.2 q h1 h2)⟩
theorem rw_f.pile {I : Nat → Int} {A : Nat → Int → Int} {j v : Int} : rw_f I A I (rm_w A 92 j v) := ⟨fun _ _ => rfl, fun q _ h2 => by
  funext i
  exact if_neg (fun z => h2 z.1)⟩
theorem rw_W.pile {I : Nat → Int} {A : Nat → Int → Int} {ws : List Int} (h : rw_W I A ws) {j v : Int} : rw_W I (rm_w A 92 j v) ws := by
  have e : rm_w A 92 j v 91 = A 91 := by
    funext i
    exact if_neg (fun z => absurd z.1 (by decide))
  exact ⟨h.1, h.2.1, by rw [e]; exact h.2.2⟩
theorem rw_pile_up {A : Nat → Int → Int} {j v : Int} : rm_w A 92 j v 92 = mo_up (A 92) j v := by
  funext i
  simp [rm_w, mo_up]
/-- the arguments from k on, a comma before each -/
def rw_tj (G : mo_G) (v : Int) : Nat → Int → List rw_it
  | 0, _ => []
  | r + 1, k => .inl 44 :: .inr (mo_g G v k) :: rw_tj G v r (k + 1)
theorem rw_tj_out {G : mo_G} {bd : Int → Int} {v : Int} : ∀ (r : Nat) (k : Int), 0 < k → rw_out G bd (rw_tj G v r k) = mo_wa G (mo_wr G bd 40) v r k
  | 0, _, _ => rfl
  | r + 1, k, hk => by
    show [44] ++ (mo_wr G bd 40 (mo_g G v k) ++ rw_out G bd (rw_tj G v r (k + 1))) = (if k = 0 then 40 else 44) :: (mo_wr G bd 40 (mo_g G v k) ++ mo_wa G (mo_wr G bd 40) v r (k + 1))
    rw [rw_tj_out r (k + 1) (by omega), if_neg (by omega)]
    rfl
theorem rw_tj_len {G : mo_G} {v : Int} : ∀ (r : Nat) (k : Int), (rw_tj G v r k).length = 2 * r
  | 0, _ => rfl
  | r + 1, k => by
    show (rw_tj G v r (k + 1)).length + 1 + 1 = _
    rw [rw_tj_len r (k + 1)]
    omega
section RWW
variable {L : Nat} {xs : Nat → Int32} {S : ty_S} {I : Nat → Int} {A : Nat → Int → Int} {G : mo_G} {made : Int} {bd ta : Int → Int} {nc : Int}
theorem rm_put (d : Nat) (hS : ty_st S) {ws : List Int} (hW : rw_W I A ws) {c : Int} : ty_C L xs (d + 1) 147 [.inr (.inr (some (94, 0))), .inl (ty_J c)] (rm_s S I A) (ty_oV fun S' => ∃ I' A', S' = rm_s S I' A' ∧ rw_W I' A' (mo_ap ws [c]) ∧ rw_f I A I' A' ∧ A' 92 = A 92) := by
  obtain ⟨h1, h2, h3⟩ := hW
  have hn : 0 ≤ I 63 ∧ I 63 ≤ 80 := by omega
  refine ty_enter (ml := 2) (ls := [_, _]) rfl rfl (Nat.le_of_ble_eq_true rfl) ?_
  refine ty_aload_n (pc := 0) (i := 0) (ks := []) (by decide +kernel) rfl ?_
  refine ty_getI (pc := 1) (idx := 324) (ci := 13) (f := 63) (by decide +kernel) (by first | rfl | assumption) rfl (by first | exact hS.1 _ _ rfl | assumption) (fun v hv => ?_)
  simp (decide := true) only [rm_I, rm_u, rm_w, ty_sI, ty_sR, ty_sA, ty_sQ, ty_mA, ty_mQ, ↓reduceIte, false_and, and_false, true_and, and_true, and_self] at hv
  subst hv
  refine ty_bipush (pc := 4) (n := 80) (ks := []) (by decide +kernel) (by omega) ?_
  -- at 6: .if_icmp .ne 4
  refine ty_icmp_ne (pc := 6) (off := 4) (t := 10) (ks := []) (by decide +kernel) (by omega) (by omega) (fun hc => ?_) (fun hc => ?_)
  · have e : mo_ap ws [c] = ws ++ [c] := by
      unfold mo_ap
      rw [List.take_of_length_le (by rw [List.length_append, List.length_singleton]; omega)]
    refine ty_aload_n (pc := 10) (i := 0) (ks := []) (by decide +kernel) rfl ?_
    refine ty_getS (b := (91, 0)) (pc := 11) (idx := 129) (ci := 13) (f := 61) (by decide +kernel) (by first | rfl | assumption) rfl (by first | exact hS.1 _ _ rfl | assumption) (by first | exact hS.2.2 _ _ _ _ rfl | assumption) ?_
    refine ty_aload_n (pc := 14) (i := 0) (ks := []) (by decide +kernel) rfl ?_
    refine ty_getI (pc := 15) (idx := 324) (ci := 13) (f := 63) (by decide +kernel) (by first | rfl | assumption) rfl (by first | exact hS.1 _ _ rfl | assumption) (fun v hv => ?_)
    simp (decide := true) only [rm_I, rm_u, rm_w, ty_sI, ty_sR, ty_sA, ty_sQ, ty_mA, ty_mQ, ↓reduceIte, false_and, and_false, true_and, and_true, and_self] at hv
    subst hv
    refine ty_iload_n (pc := 18) (i := 1) (ks := []) (by decide +kernel) rfl ?_
    refine ty_iastore (pc := 19) (ks := []) (by decide +kernel) (by first | rfl | assumption) (by rfl) (by first | exact hS.1 _ _ rfl | assumption) (by first | exact hS.2.1 _ _ _ rfl | assumption) (by omega) ?_
    rw [rm_sA (by decide)]
    refine ty_aload_n (pc := 20) (i := 0) (ks := []) (by decide +kernel) rfl ?_
    refine ty_dup (pc := 21) (ks := []) (by decide +kernel) rfl ?_
    refine ty_getI (pc := 22) (idx := 324) (ci := 13) (f := 63) (by decide +kernel) (by first | rfl | assumption) rfl (by first | exact hS.1 _ _ rfl | assumption) (fun v hv => ?_)
    simp (decide := true) only [rm_I, rm_u, rm_w, ty_sI, ty_sR, ty_sA, ty_sQ, ty_mA, ty_mQ, ↓reduceIte, false_and, and_false, true_and, and_true, and_self] at hv
    subst hv
    refine ty_iconst (pc := 25) (n := 1) (ks := []) (by decide +kernel) ?_
    refine ty_iadd (pc := 26) (ks := []) (by decide +kernel) ?_
    refine ty_putI (pc := 27) (idx := 324) (ci := 13) (f := 63) (by decide +kernel) (by first | rfl | assumption) rfl rfl (by first | exact hS.1 _ _ rfl | assumption) ?_
    rw [rm_sI]
    -- at 30: .return_
    refine ty_ret_v (pc := 30) (ks := []) (by decide +kernel) rfl ?_
    refine ⟨rfl, _, _, rfl, ?_, ⟨fun k hk => if_neg hk, fun q q1 q2 => ?_⟩, ?_⟩
    · rw [e]
      refine ⟨?_, by rw [List.length_append, List.length_singleton]; omega, mo_at_app.mpr ⟨mo_at_eq (fun j h0 h1' => if_neg (fun z => by omega)) h3, ?_, trivial⟩⟩
      · show I 63 + 1 = _
        rw [List.length_append, List.length_singleton]
        omega
      · show (if 91 = 91 ∧ (0 : Int) + (ws.length : Int) = I 63 then c else _) = c
        rw [if_pos ⟨rfl, by omega⟩]
    · funext i
      exact if_neg (fun z => q1 z.1)
    · funext i
      exact if_neg (fun z => absurd z.1 (by decide))
  · refine ty_ret_v (pc := 9) (ks := []) (by decide +kernel) rfl ?_
    refine ⟨rfl, I, A, rfl, ?_, ⟨fun _ _ => rfl, fun _ _ _ => rfl⟩, rfl⟩
    rw [mo_ap_full (by omega)]
    exact ⟨h1, h2, h3⟩
/-- the arguments are put on the pile -/
theorem rw_push (d : Nat) (hS : ty_st S) {z v : Int} (hz : 0 ≤ z ∧ z < 24000) {N : Nat} (hN : N ≤ 3) {t : Int32} {ws : List Int} {base : List rw_it} {A0 : Nat → Int → Int} (hag : ∀ k : Nat, k < N → rw_i G made bd ta nc (A0 62 (z * 3 + k)) (.inr (mo_g G v k))) {Q : ai_O → ty_S → Prop} {I0 : Nat → Int} (cont : ∀ (I' : Nat → Int) (A' : Nat → Int → Int) (n' : Int) (x4 : Int32), rw_f I0 A0 I' A' → rw_W I' A' ws → rw_P G made bd ta nc (A' 92) n' ((if N = 0 then [] else .inr (mo_g G v 0) :: rw_tj G v (N - 1) 1) ++ base) → ty_W L xs d 146 14 [some (.inr (.inr (some (94, 0)))), some (.inl t), some (.inl (ty_J n')), some (.inl (ty_J z)), some (.inl x4)] [] (rm_s S I' A') Q) :
    ∀ (k : Nat) (I : Nat → Int) (A : Nat → Int → Int) (n : Int), k < N → rw_f I0 A0 I A → rw_W I A ws → base.length ≤ 700 → rw_P G made bd ta nc (A 92) n (rw_tj G v (N - 1 - k) (k + 1) ++ base) →
    ty_W L xs d 146 125 [some (.inr (.inr (some (94, 0)))), some (.inl t), some (.inl (ty_J n)), some (.inl (ty_J z)), some (.inl (ty_J k))] [] (rm_s S I A) Q := by
  intro k
  induction k with
  | zero =>
    intro I A n hk hf hW hb hP
    have hlen := rw_P_len _ _ hP
    rw [List.length_append, rw_tj_len] at hlen
    have eA : A 62 = A0 62 := hf.2 _ (by decide) (by decide)
    have h0 := hag 0 hk
    rw [show z * 3 + ((0 : Nat) : Int) = z * 3 by omega] at h0
    rw [show ((0 : Nat) : Int) = 0 from rfl]
    refine ty_iload (pc := 125) (i := 4) (ks := []) (by decide +kernel) rfl ?_
    -- at 127: .ifCond .lt 49
    refine ty_if_lt (pc := 127) (off := 49) (t := 176) (ks := []) (by decide +kernel) (by omega) (fun hc => ?_) (fun hc => ?_)
    · omega
    clear hc
    refine ty_aload_n (pc := 130) (i := 0) (ks := []) (by decide +kernel) rfl ?_
    refine ty_getS (b := (92, 0)) (pc := 131) (idx := 132) (ci := 13) (f := 62) (by decide +kernel) (by first | rfl | assumption) rfl (by first | exact hS.1 _ _ rfl | assumption) (by first | exact hS.2.2 _ _ _ _ rfl | assumption) ?_
    refine ty_iload_n (pc := 134) (i := 2) (ks := []) (by decide +kernel) rfl ?_
    refine ty_aload_n (pc := 135) (i := 0) (ks := []) (by decide +kernel) rfl ?_
    refine ty_getS (b := (62, 0)) (pc := 136) (idx := 42) (ci := 13) (f := 16) (by decide +kernel) (by first | rfl | assumption) rfl (by first | exact hS.1 _ _ rfl | assumption) (by first | exact hS.2.2 _ _ _ _ rfl | assumption) ?_
    refine ty_iload_n (pc := 139) (i := 3) (ks := []) (by decide +kernel) rfl ?_
    refine ty_iconst (pc := 140) (n := 3) (ks := []) (by decide +kernel) ?_
    refine ty_imul (pc := 141) (ks := []) (by decide +kernel) ?_
    refine ty_iload (pc := 142) (i := 4) (ks := []) (by decide +kernel) rfl ?_
    refine ty_iadd (pc := 144) (ks := []) (by decide +kernel) ?_
    refine ty_iaload (pc := 145) (ks := []) (by decide +kernel) (by first | rfl | assumption) (by rfl) (by first | exact hS.1 _ _ rfl | assumption) (by first | exact hS.2.1 _ _ _ rfl | assumption) (by omega) (fun v hv => ?_)
    rw [rm_A (by decide)] at hv
    first | (simp (decide := true) only [rm_w, ty_sI, ty_sR, ty_sA, ty_sQ, ty_mA, ty_mQ, ↓reduceIte, false_and, and_false, true_and, and_true, and_self] at hv) | skip
    subst hv
    refine ty_iastore (pc := 146) (ks := []) (by decide +kernel) (by first | rfl | assumption) (by rfl) (by first | exact hS.1 _ _ rfl | assumption) (by first | exact hS.2.1 _ _ _ rfl | assumption) (by omega) ?_
    rw [rm_sA (by decide)]
    refine ty_iinc (pc := 147) (i := 2) (n := 1) (ks := []) (ls' := [_, _, _, _, _]) (by decide +kernel) rfl rfl ?_
    refine ty_iload (pc := 150) (i := 4) (ks := []) (by decide +kernel) rfl ?_
    -- at 152: .ifCond .ne 6
    refine ty_if_ne (pc := 152) (off := 6) (t := 158) (ks := []) (by decide +kernel) (by omega) (fun hc => ?_) (fun hc => ?_)
    · exact absurd rfl hc
    clear hc
    refine ty_goto (pc := 155) (off := 15) (t := 170) (ks := []) (by decide +kernel) ?_
    refine ty_iinc (pc := 170) (i := 4) (n := (-1)) (ks := []) (ls' := [_, _, _, _, _]) (by decide +kernel) rfl rfl ?_
    refine ty_goto (pc := 173) (off := (-48)) (t := 125) (ks := []) (by decide +kernel) ?_
    refine ty_iload (pc := 125) (i := 4) (ks := []) (by decide +kernel) rfl ?_
    -- at 127: .ifCond .lt 49
    refine ty_if_lt (pc := 127) (off := 49) (t := 176) (ks := []) (by decide +kernel) (by omega) (fun hc => ?_) (fun hc => ?_)
    rotate_left
    · omega
    clear hc
    refine ty_goto (pc := 176) (off := (-162)) (t := 14) (ks := []) (by decide +kernel) ?_
    -- at 14: .iload_n 2
    rw [eA, show z * 3 + 0 = z * 3 by omega]
    refine cont _ _ _ _ (hf.trans rw_f.pile) hW.pile ?_
    rw [if_neg (by omega), rw_pile_up]
    exact rw_P_put (by omega) hP h0
  | succ k ih =>
    intro I A n hk hf hW hb hP
    have hlen := rw_P_len _ _ hP
    rw [List.length_append, rw_tj_len] at hlen
    have eA : A 62 = A0 62 := hf.2 _ (by decide) (by decide)
    have h0 := hag (k + 1) hk
    refine ty_iload (pc := 125) (i := 4) (ks := []) (by decide +kernel) rfl ?_
    -- at 127: .ifCond .lt 49
    refine ty_if_lt (pc := 127) (off := 49) (t := 176) (ks := []) (by decide +kernel) (by omega) (fun hc => ?_) (fun hc => ?_)
    · omega
    clear hc
    refine ty_aload_n (pc := 130) (i := 0) (ks := []) (by decide +kernel) rfl ?_
    refine ty_getS (b := (92, 0)) (pc := 131) (idx := 132) (ci := 13) (f := 62) (by decide +kernel) (by first | rfl | assumption) rfl (by first | exact hS.1 _ _ rfl | assumption) (by first | exact hS.2.2 _ _ _ _ rfl | assumption) ?_
    refine ty_iload_n (pc := 134) (i := 2) (ks := []) (by decide +kernel) rfl ?_
    refine ty_aload_n (pc := 135) (i := 0) (ks := []) (by decide +kernel) rfl ?_
    refine ty_getS (b := (62, 0)) (pc := 136) (idx := 42) (ci := 13) (f := 16) (by decide +kernel) (by first | rfl | assumption) rfl (by first | exact hS.1 _ _ rfl | assumption) (by first | exact hS.2.2 _ _ _ _ rfl | assumption) ?_
    refine ty_iload_n (pc := 139) (i := 3) (ks := []) (by decide +kernel) rfl ?_
    refine ty_iconst (pc := 140) (n := 3) (ks := []) (by decide +kernel) ?_
    refine ty_imul (pc := 141) (ks := []) (by decide +kernel) ?_
    refine ty_iload (pc := 142) (i := 4) (ks := []) (by decide +kernel) rfl ?_
    refine ty_iadd (pc := 144) (ks := []) (by decide +kernel) ?_
    refine ty_iaload (pc := 145) (ks := []) (by decide +kernel) (by first | rfl | assumption) (by rfl) (by first | exact hS.1 _ _ rfl | assumption) (by first | exact hS.2.1 _ _ _ rfl | assumption) (by omega) (fun v hv => ?_)
    rw [rm_A (by decide)] at hv
    first | (simp (decide := true) only [rm_w, ty_sI, ty_sR, ty_sA, ty_sQ, ty_mA, ty_mQ, ↓reduceIte, false_and, and_false, true_and, and_true, and_self] at hv) | skip
    subst hv
    refine ty_iastore (pc := 146) (ks := []) (by decide +kernel) (by first | rfl | assumption) (by rfl) (by first | exact hS.1 _ _ rfl | assumption) (by first | exact hS.2.1 _ _ _ rfl | assumption) (by omega) ?_
    rw [rm_sA (by decide)]
    refine ty_iinc (pc := 147) (i := 2) (n := 1) (ks := []) (ls' := [_, _, _, _, _]) (by decide +kernel) rfl rfl ?_
    refine ty_iload (pc := 150) (i := 4) (ks := []) (by decide +kernel) rfl ?_
    -- at 152: .ifCond .ne 6
    refine ty_if_ne (pc := 152) (off := 6) (t := 158) (ks := []) (by decide +kernel) (by omega) (fun hc => ?_) (fun hc => ?_)
    rotate_left
    · omega
    clear hc
    refine ty_aload_n (pc := 158) (i := 0) (ks := []) (by decide +kernel) rfl ?_
    refine ty_getS (b := (92, 0)) (pc := 159) (idx := 132) (ci := 13) (f := 62) (by decide +kernel) (by first | rfl | assumption) rfl (by first | exact hS.1 _ _ rfl | assumption) (by first | exact hS.2.2 _ _ _ _ rfl | assumption) ?_
    refine ty_iload_n (pc := 162) (i := 2) (ks := []) (by decide +kernel) rfl ?_
    refine ty_ldc_w (pc := 163) (idx := 332) (c := 100044) (z := 100044) (by decide +kernel) (by decide +kernel) ?_
    refine ty_iastore (pc := 166) (ks := []) (by decide +kernel) (by first | rfl | assumption) (by rfl) (by first | exact hS.1 _ _ rfl | assumption) (by first | exact hS.2.1 _ _ _ rfl | assumption) (by omega) ?_
    rw [rm_sA (by decide)]
    refine ty_iinc (pc := 167) (i := 2) (n := 1) (ks := []) (ls' := [_, _, _, _, _]) (by decide +kernel) rfl rfl ?_
    refine ty_iinc (pc := 170) (i := 4) (n := (-1)) (ks := []) (ls' := [_, _, _, _, _]) (by decide +kernel) rfl rfl ?_
    refine ty_goto (pc := 173) (off := (-48)) (t := 125) (ks := []) (by decide +kernel) ?_
    -- at 125: .iload 4
    rw [eA, show ((k + 1 : Nat) : Int) + -1 = (k : Int) by omega]
    refine ih _ _ _ (by omega) ((hf.trans rw_f.pile).trans rw_f.pile) hW.pile.pile hb ?_
    rw [rw_pile_up, rw_pile_up, show N - 1 - k = (N - 1 - (k + 1)) + 1 by omega]
    show rw_P G made bd ta nc _ _ (.inl 44 :: .inr (mo_g G v ((k : Int) + 1)) :: (rw_tj G v (N - 1 - (k + 1)) ((k : Int) + 1 + 1) ++ base))
    refine rw_P_put (by omega) (rw_P_put (by omega) hP ?_) ⟨rfl, by decide, by decide⟩
    exact h0
theorem rw_loop (d : Nat) (hS : ty_st S) (hw : mo_wf G) (hb : mo_bw G made bd) (hnc : nc ≤ 24000) (hmade : made ≤ 13000) (hcell : ∀ c, 0 ≤ c → c < nc → rm_cell G made ta nc A c) (hrv : ∀ v, 0 ≤ v → v < made → rm_b ta nc (A 63 v) (bd v)) {t : Int32} : ∀ (k : Nat) (I1 : Nat → Int) (A1 : Nat → Int → Int) (ws : List Int) (n : Int) (its : List rw_it) (x3 x4 : Option Int32), ws.length + k = 80 → rw_W I1 A1 ws → rw_P G made bd ta nc (A1 92) n its → n ≤ 6 * ws.length + 1 → rw_f I A I1 A1 →
    ty_W L xs (d + 1) 146 14 [some (.inr (.inr (some (94, 0)))), some (.inl t), some (.inl (ty_J n)), x3.map .inl, x4.map .inl] [] (rm_s S I1 A1) (ty_oV fun S' => ∃ I' A', S' = rm_s S I' A' ∧ rw_W I' A' (mo_ap ws (rw_out G bd its)) ∧ rw_f I A I' A') := by
  intro k
  induction k using Nat.strongRecOn with
  | _ k ih =>
  intro I1 A1 ws n its x3 x4 hk hW hP hn hf
  have hnl := rw_P_len _ _ hP
  have hws := hW.1
  refine ty_iload_n (pc := 14) (i := 2) (ks := []) (by decide +kernel) rfl ?_
  -- at 15: .ifCond .le 164
  refine ty_if_le (pc := 15) (off := 164) (t := 179) (ks := []) (by decide +kernel) (by omega) (fun hc => ?_) (fun hc => ?_)
  · refine ty_ret_v (pc := 179) (ks := []) (by decide +kernel) rfl ?_
    have e : its = [] := List.length_eq_zero_iff.mp (by omega)
    subst e
    refine ⟨rfl, I1, A1, rfl, ?_, hf⟩
    show rw_W I1 A1 (mo_ap ws [])
    rw [mo_ap_nil hW.2.1]
    exact hW
  have hpos := hc
  clear hc
  refine ty_aload_n (pc := 18) (i := 0) (ks := []) (by decide +kernel) rfl ?_
  refine ty_getI (pc := 19) (idx := 324) (ci := 13) (f := 63) (by decide +kernel) (by first | rfl | assumption) rfl (by first | exact hS.1 _ _ rfl | assumption) (fun v hv => ?_)
  simp (decide := true) only [rm_I, rm_u, rm_w, ty_sI, ty_sR, ty_sA, ty_sQ, ty_mA, ty_mQ, ↓reduceIte, false_and, and_false, true_and, and_true, and_self] at hv
  subst hv
  refine ty_bipush (pc := 22) (n := 80) (ks := []) (by decide +kernel) (by omega) ?_
  -- at 24: .if_icmp .ge 155
  refine ty_icmp_ge (pc := 24) (off := 155) (t := 179) (ks := []) (by decide +kernel) (by omega) (by omega) (fun hc => ?_) (fun hc => ?_)
  · refine ty_ret_v (pc := 179) (ks := []) (by decide +kernel) rfl ?_
    refine ⟨rfl, I1, A1, rfl, ?_, hf⟩
    rw [mo_ap_full (by omega)]
    exact hW
  have hlt := hc
  clear hc
  cases its with
  | nil => simp only [List.length_nil] at hnl; omega
  | cons it its =>
    obtain ⟨p1, p2, p3⟩ := hP
    rw [List.length_cons] at hnl
    have hfr : ∀ c : List Int, ws.length < 80 → c ≠ [] → ws.length + 1 ≤ (mo_ap ws c).length ∧ (mo_ap ws c).length ≤ 80 := fun c h1 h2 => by
      have hc := List.length_pos_iff.mpr h2
      unfold mo_ap
      rw [List.length_take, List.length_append]
      omega
    refine ty_iinc (pc := 27) (i := 2) (n := (-1)) (ks := []) (ls' := [_, _, _, _, _]) (by decide +kernel) rfl rfl ?_
    refine ty_aload_n (pc := 30) (i := 0) (ks := []) (by decide +kernel) rfl ?_
    refine ty_getS (b := (92, 0)) (pc := 31) (idx := 132) (ci := 13) (f := 62) (by decide +kernel) (by first | rfl | assumption) rfl (by first | exact hS.1 _ _ rfl | assumption) (by first | exact hS.2.2 _ _ _ _ rfl | assumption) ?_
    refine ty_iload_n (pc := 34) (i := 2) (ks := []) (by decide +kernel) rfl ?_
    refine ty_iaload (pc := 35) (ks := []) (by decide +kernel) (by first | rfl | assumption) (by rfl) (by first | exact hS.1 _ _ rfl | assumption) (by first | exact hS.2.1 _ _ _ rfl | assumption) (by omega) (fun v hv => ?_)
    rw [rm_A (by decide)] at hv
    first | (simp (decide := true) only [rm_w, ty_sI, ty_sR, ty_sA, ty_sQ, ty_mA, ty_mQ, ↓reduceIte, false_and, and_false, true_and, and_true, and_self] at hv) | skip
    subst hv
    refine ty_istore_n (pc := 36) (i := 3) (ks := []) (ls' := [_, _, _, _, _]) (by decide +kernel) rfl ?_
    refine ty_iload_n (pc := 37) (i := 3) (ks := []) (by decide +kernel) rfl ?_
    refine ty_ldc_w (pc := 38) (idx := 327) (c := 100000) (z := 100000) (by decide +kernel) (by decide +kernel) ?_
    -- at 41: .if_icmp .lt 15
    rw [show n + -1 = n - 1 by omega]
    cases it with
    | inl c =>
      obtain ⟨q1, q2, q3⟩ := p2
      rw [q1]
      refine ty_icmp_lt (pc := 41) (off := 15) (t := 56) (ks := []) (by decide +kernel) (by omega) (by omega) (fun hc => ?_) (fun hc => ?_)
      · omega
      clear hc
      refine ty_aload_n (pc := 44) (i := 0) (ks := []) (by decide +kernel) rfl ?_
      refine ty_iload_n (pc := 45) (i := 3) (ks := []) (by decide +kernel) rfl ?_
      refine ty_ldc_w (pc := 46) (idx := 327) (c := 100000) (z := 100000) (by decide +kernel) (by decide +kernel) ?_
      refine ty_isub (pc := 49) (ks := []) (by decide +kernel) ?_
      -- at 50: .invokevirtual 328
      rw [show 100000 + c - 100000 = c by omega]
      refine ty_callv (pc := 50) (idx := 328) (m := 147) (n := 2) (c := 13) (vs := [_]) (r := []) (by decide +kernel) rfl rfl (Nat.le_of_ble_eq_true rfl) (by first | rfl | assumption) (by first | exact hS.1 _ _ rfl | assumption) (rm_put (L := L) (xs := xs) d hS hW) ?_
      rintro _ S1 ⟨rfl, I2, A2, rfl, w1, w2, w3⟩
      refine ty_KV ?_
      have hl := hfr [c] (by omega) (by simp)
      refine ty_goto (pc := 53) (off := (-39)) (t := 14) (ks := []) (by decide +kernel) ?_
      -- at 14: .iload_n 2
      have := ih (80 - (mo_ap ws [c]).length) (by omega) I2 A2 (mo_ap ws [c]) (n - 1) its (some (ty_J (100000 + c))) x4 (by omega) w1 (by rw [w3]; exact p3) (by omega) (hf.trans w2)
      rw [mo_ap_ap] at this
      exact this
    | inr t0 =>
      obtain ⟨y, q1, q2, q3, q4⟩ := p2
      have hxr : A1 92 (n - 1) < 24000 ∧ -13000 ≤ A1 92 (n - 1) := by
        rcases q1 with z | z
        · have := q2 z.1
          omega
        · omega
      generalize A1 92 (n - 1) = x at q1 q2 hxr
      have eB : A1 63 = A 63 := hf.2 _ (by decide) (by decide)
      have eS : A1 60 = A 60 := hf.2 _ (by decide) (by decide)
      have eC : A1 61 = A 61 := hf.2 _ (by decide) (by decide)
      have hrv1 : ∀ v, 0 ≤ v → v < made → rm_b ta nc (A1 63 v) (bd v) := by rw [eB]; exact hrv
      refine ty_icmp_lt (pc := 41) (off := 15) (t := 56) (ks := []) (by decide +kernel) (by omega) (by omega) (fun hc => ?_) (fun hc => ?_)
      rotate_left
      · omega
      clear hc
      refine ty_aload_n (pc := 56) (i := 0) (ks := []) (by decide +kernel) rfl ?_
      refine ty_iload_n (pc := 57) (i := 3) (ks := []) (by decide +kernel) rfl ?_
      -- at 58: .invokevirtual 240
      refine ty_callv (pc := 58) (idx := 240) (m := 134) (n := 2) (c := 13) (vs := [_]) (r := []) (by decide +kernel) rfl rfl (Nat.le_of_ble_eq_true rfl) (by first | rfl | assumption) (by first | exact hS.1 _ _ rfl | assumption) (rm_value (L := L) (xs := xs) (I := I1) (A := A1) d hS hb hrv1 hnc hmade q1 q2) ?_
      rintro _ S1 ⟨u, rfl, hu, rfl⟩
      refine ty_KI ?_
      rw [q3] at hu
      have hiv := mo_val_isval hw hb q4
      obtain ⟨u1, u2, u3⟩ := rm_isval_var hu hiv
      have hur : -13000 ≤ u ∧ u < 24000 := by
        by_cases e : u < 0
        · have := u2 e
          omega
        · have := u3 (by omega)
          omega
      have hwr : mo_wr G bd 40 t0 = if mo_val G bd t0 < 0 then [95] else mo_l G (mo_val G bd t0) :: (mo_wa G (mo_wr G bd 39) (mo_val G bd t0) (mo_a G (mo_val G bd t0)).toNat 0 ++ (if 0 < mo_a G (mo_val G bd t0) then [41] else [])) := rfl
      have hwr1 : mo_wr G bd 41 t0 = if mo_val G bd t0 < 0 then [95] else mo_l G (mo_val G bd t0) :: (mo_wa G (mo_wr G bd 40) (mo_val G bd t0) (mo_a G (mo_val G bd t0)).toNat 0 ++ (if 0 < mo_a G (mo_val G bd t0) then [41] else [])) := rfl
      have hstab := tk_wr (G := G) (bd := bd) 40 80 t0 (by omega)
      show ty_W L xs (d + 1) 146 _ _ _ _ (ty_oV fun S' => ∃ I' A', S' = rm_s S I' A' ∧ rw_W I' A' (mo_ap ws (mo_wr G bd 40 t0 ++ rw_out G bd its)) ∧ rw_f I A I' A')
      generalize mo_val G bd t0 = X at hu hiv u1 u2 u3 hwr hwr1
      by_cases eu : u < 0
      · rw [if_pos (u1.mp eu)] at hwr
        refine ty_istore_n (pc := 61) (i := 3) (ks := []) (ls' := [_, _, _, _, _]) (by decide +kernel) rfl ?_
        refine ty_aload_n (pc := 62) (i := 0) (ks := []) (by decide +kernel) rfl ?_
        refine ty_iload_n (pc := 63) (i := 3) (ks := []) (by decide +kernel) rfl ?_
        -- at 64: .ifCond .ge 8
        refine ty_if_ge (pc := 64) (off := 8) (t := 72) (ks := []) (by decide +kernel) (by omega) (fun hc => ?_) (fun hc => ?_)
        · omega
        clear hc
        refine ty_bipush (pc := 67) (n := 95) (ks := []) (by decide +kernel) (by omega) ?_
        refine ty_goto (pc := 69) (off := 9) (t := 78) (ks := []) (by decide +kernel) ?_
        -- at 78: .invokevirtual 328
        refine ty_callv (pc := 78) (idx := 328) (m := 147) (n := 2) (c := 13) (vs := [_]) (r := []) (by decide +kernel) rfl rfl (Nat.le_of_ble_eq_true rfl) (by first | rfl | assumption) (by first | exact hS.1 _ _ rfl | assumption) (rm_put (L := L) (xs := xs) d hS hW) ?_
        rintro _ S1 ⟨rfl, I2, A2, rfl, w1, w2, w3⟩
        refine ty_KV ?_
        have hl := hfr [95] (by omega) (by simp)
        refine ty_iload_n (pc := 81) (i := 3) (ks := []) (by decide +kernel) rfl ?_
        -- at 82: .ifCond .lt (-68)
        refine ty_if_lt (pc := 82) (off := (-68)) (t := 14) (ks := []) (by decide +kernel) (by omega) (fun hc => ?_) (fun hc => ?_)
        rotate_left
        · omega
        clear hc
        have := ih (80 - (mo_ap ws [95]).length) (by omega) I2 A2 (mo_ap ws [95]) (n - 1) its (some (ty_J u)) x4 (by omega) w1 (by rw [w3]; exact p3) (by omega) (hf.trans w2)
        rw [mo_ap_ap] at this
        rw [hwr]
        exact this
      · have hX : ¬ X < 0 := fun z => eu (u1.mpr z)
        rw [if_neg hX] at hwr hwr1
        obtain ⟨un, uta, uok⟩ := u3 (by omega)
        obtain ⟨-, -, us, ua, ug⟩ := hcell u (by omega) un
        rw [uta] at us ua ug
        have hlr : 0 ≤ mo_l G X ∧ mo_l G X ≤ 65535 := (hw _ uok.2.1).2.1
        have har : 0 ≤ mo_a G X ∧ mo_a G X ≤ 3 := (hw _ uok.2.1).2.2.1
        refine ty_istore_n (pc := 61) (i := 3) (ks := []) (ls' := [_, _, _, _, _]) (by decide +kernel) rfl ?_
        refine ty_aload_n (pc := 62) (i := 0) (ks := []) (by decide +kernel) rfl ?_
        refine ty_iload_n (pc := 63) (i := 3) (ks := []) (by decide +kernel) rfl ?_
        -- at 64: .ifCond .ge 8
        refine ty_if_ge (pc := 64) (off := 8) (t := 72) (ks := []) (by decide +kernel) (by omega) (fun hc => ?_) (fun hc => ?_)
        rotate_left
        · omega
        clear hc
        refine ty_aload_n (pc := 72) (i := 0) (ks := []) (by decide +kernel) rfl ?_
        refine ty_getS (b := (60, 0)) (pc := 73) (idx := 35) (ci := 13) (f := 14) (by decide +kernel) (by first | rfl | assumption) rfl (by first | exact hS.1 _ _ rfl | assumption) (by first | exact hS.2.2 _ _ _ _ rfl | assumption) ?_
        refine ty_iload_n (pc := 76) (i := 3) (ks := []) (by decide +kernel) rfl ?_
        refine ty_iaload (pc := 77) (ks := []) (by decide +kernel) (by first | rfl | assumption) (by rfl) (by first | exact hS.1 _ _ rfl | assumption) (by first | exact hS.2.1 _ _ _ rfl | assumption) (by omega) (fun v hv => ?_)
        rw [rm_A (by decide)] at hv
        first | (simp (decide := true) only [rm_w, ty_sI, ty_sR, ty_sA, ty_sQ, ty_mA, ty_mQ, ↓reduceIte, false_and, and_false, true_and, and_true, and_self] at hv) | skip
        subst hv
        -- at 78: .invokevirtual 328
        rw [eS, us]
        refine ty_callv (pc := 78) (idx := 328) (m := 147) (n := 2) (c := 13) (vs := [_]) (r := []) (by decide +kernel) rfl rfl (Nat.le_of_ble_eq_true rfl) (by first | rfl | assumption) (by first | exact hS.1 _ _ rfl | assumption) (rm_put (L := L) (xs := xs) d hS hW) ?_
        rintro _ S1 ⟨rfl, I2, A2, rfl, w1, w2, w3⟩
        refine ty_KV ?_
        have hl := hfr [mo_l G X] (by omega) (by simp)
        have eC2 : A2 61 = A 61 := (w2.2 _ (by decide) (by decide)).trans eC
        refine ty_iload_n (pc := 81) (i := 3) (ks := []) (by decide +kernel) rfl ?_
        -- at 82: .ifCond .lt (-68)
        refine ty_if_lt (pc := 82) (off := (-68)) (t := 14) (ks := []) (by decide +kernel) (by omega) (fun hc => ?_) (fun hc => ?_)
        · omega
        clear hc
        refine ty_aload_n (pc := 85) (i := 0) (ks := []) (by decide +kernel) rfl ?_
        refine ty_getS (b := (61, 0)) (pc := 86) (idx := 38) (ci := 13) (f := 15) (by decide +kernel) (by first | rfl | assumption) rfl (by first | exact hS.1 _ _ rfl | assumption) (by first | exact hS.2.2 _ _ _ _ rfl | assumption) ?_
        refine ty_iload_n (pc := 89) (i := 3) (ks := []) (by decide +kernel) rfl ?_
        refine ty_iaload (pc := 90) (ks := []) (by decide +kernel) (by first | rfl | assumption) (by rfl) (by first | exact hS.1 _ _ rfl | assumption) (by first | exact hS.2.1 _ _ _ rfl | assumption) (by omega) (fun v hv => ?_)
        rw [rm_A (by decide)] at hv
        first | (simp (decide := true) only [rm_w, ty_sI, ty_sR, ty_sA, ty_sQ, ty_mA, ty_mQ, ↓reduceIte, false_and, and_false, true_and, and_true, and_self] at hv) | skip
        subst hv
        -- at 91: .ifCond .ne 6
        rw [eC2, ua]
        by_cases ea : mo_a G X = 0
        · rw [ea] at hwr
          refine ty_if_ne (pc := 91) (off := 6) (t := 97) (ks := []) (by decide +kernel) (by omega) (fun hc => ?_) (fun hc => ?_)
          · exact absurd ea hc
          clear hc
          refine ty_goto (pc := 94) (off := (-80)) (t := 14) (ks := []) (by decide +kernel) ?_
          -- at 14: .iload_n 2
          have := ih (80 - (mo_ap ws [mo_l G X]).length) (by omega) I2 A2 (mo_ap ws [mo_l G X]) (n - 1) its (some (ty_J u)) x4 (by omega) w1 (by rw [w3]; exact p3) (by omega) (hf.trans w2)
          rw [mo_ap_ap] at this
          rw [hwr]
          exact this
        · refine ty_if_ne (pc := 91) (off := 6) (t := 97) (ks := []) (by decide +kernel) (by omega) (fun hc => ?_) (fun hc => ?_)
          rotate_left
          · exact absurd hc ea
          clear hc
          refine ty_aload_n (pc := 97) (i := 0) (ks := []) (by decide +kernel) rfl ?_
          refine ty_bipush (pc := 98) (n := 40) (ks := []) (by decide +kernel) (by omega) ?_
          -- at 100: .invokevirtual 328
          refine ty_callv (pc := 100) (idx := 328) (m := 147) (n := 2) (c := 13) (vs := [_]) (r := []) (by decide +kernel) rfl rfl (Nat.le_of_ble_eq_true rfl) (by first | rfl | assumption) (by first | exact hS.1 _ _ rfl | assumption) (rm_put (L := L) (xs := xs) d hS w1) ?_
          rintro _ S1 ⟨rfl, I3, A3, rfl, y1, y2, y3⟩
          refine ty_KV ?_
          have hf3 : rw_f I A I3 A3 := (hf.trans w2).trans y2
          have eC3 : A3 61 = A 61 := hf3.2 _ (by decide) (by decide)
          have eP3 : A3 92 = A1 92 := y3.trans w3
          obtain ⟨N, hN⟩ : ∃ N : Nat, mo_a G X = (N : Int) + 1 := ⟨(mo_a G X - 1).toNat, by omega⟩
          refine ty_aload_n (pc := 103) (i := 0) (ks := []) (by decide +kernel) rfl ?_
          refine ty_getS (b := (92, 0)) (pc := 104) (idx := 132) (ci := 13) (f := 62) (by decide +kernel) (by first | rfl | assumption) rfl (by first | exact hS.1 _ _ rfl | assumption) (by first | exact hS.2.2 _ _ _ _ rfl | assumption) ?_
          refine ty_iload_n (pc := 107) (i := 2) (ks := []) (by decide +kernel) rfl ?_
          refine ty_ldc_w (pc := 108) (idx := 331) (c := 100041) (z := 100041) (by decide +kernel) (by decide +kernel) ?_
          refine ty_iastore (pc := 111) (ks := []) (by decide +kernel) (by first | rfl | assumption) (by rfl) (by first | exact hS.1 _ _ rfl | assumption) (by first | exact hS.2.1 _ _ _ rfl | assumption) (by omega) ?_
          rw [rm_sA (by decide)]
          refine ty_iinc (pc := 112) (i := 2) (n := 1) (ks := []) (ls' := [_, _, _, _, _]) (by decide +kernel) rfl rfl ?_
          refine ty_aload_n (pc := 115) (i := 0) (ks := []) (by decide +kernel) rfl ?_
          refine ty_getS (b := (61, 0)) (pc := 116) (idx := 38) (ci := 13) (f := 15) (by decide +kernel) (by first | rfl | assumption) rfl (by first | exact hS.1 _ _ rfl | assumption) (by first | exact hS.2.2 _ _ _ _ rfl | assumption) ?_
          refine ty_iload_n (pc := 119) (i := 3) (ks := []) (by decide +kernel) rfl ?_
          refine ty_iaload (pc := 120) (ks := []) (by decide +kernel) (by first | rfl | assumption) (by rfl) (by first | exact hS.1 _ _ rfl | assumption) (by first | exact hS.2.1 _ _ _ rfl | assumption) (by omega) (fun v hv => ?_)
          rw [rm_A (by decide)] at hv
          first | (simp (decide := true) only [rm_w, ty_sI, ty_sR, ty_sA, ty_sQ, ty_mA, ty_mQ, ↓reduceIte, false_and, and_false, true_and, and_true, and_self] at hv) | skip
          subst hv
          refine ty_iconst (pc := 121) (n := 1) (ks := []) (by decide +kernel) ?_
          refine ty_isub (pc := 122) (ks := []) (by decide +kernel) ?_
          refine ty_istore (pc := 123) (i := 4) (ks := []) (ls' := [_, _, _, _, _]) (by decide +kernel) rfl ?_
          -- at 125: .iload 4
          rw [eC3, ua, show mo_a G X - 1 = (N : Int) by omega]
          refine rw_push (d + 1) hS (G := G) (made := made) (bd := bd) (ta := ta) (nc := nc) (v := X) (N := N + 1) (base := .inl 41 :: its) (A0 := rm_w A3 92 (n - 1) 100041) (I0 := I3) (ws := mo_ap (mo_ap ws [mo_l G X]) [40]) ⟨by omega, by omega⟩ (by omega) (fun k hk => ?_) (fun I' A' n' x4' z1 z2 z3 => ?_) N I3 _ _ (by omega) ⟨fun _ _ => rfl, fun _ _ _ => rfl⟩ y1.pile (by rw [List.length_cons]; omega) ?_
          · rw [(rw_f.pile (I := I)).2 62 (by decide) (by decide), hf3.2 62 (by decide) (by decide)]
            have hg := ug k (by omega) (by omega)
            have hok : mo_ok G made (mo_g G X k) := mo_ok_arg hw uok (by omega) (by omega)
            obtain ⟨g1, g2⟩ := rm_t_v hw hok (fun c c0 c1 => (hcell c c0 c1).1.1) hg
            exact ⟨_, g1, g2, mo_vv_nf hw hok, .inl hok⟩
          · rw [if_neg (by omega), show N + 1 - 1 = N by omega] at z3
            have hlen := rw_P_len _ _ z3
            simp only [List.length_append, List.length_cons, rw_tj_len] at hlen
            have hl2 : (mo_ap (mo_ap ws [mo_l G X]) [40]).length ≤ 80 := mo_ap_len
            have hl3 : ws.length + 1 ≤ (mo_ap (mo_ap ws [mo_l G X]) [40]).length := by
              rw [mo_ap_ap]
              exact (hfr _ (by omega) (by simp)).1
            have := ih (80 - (mo_ap (mo_ap ws [mo_l G X]) [40]).length) (by omega) I' A' _ n' _ (some (ty_J u)) (some x4') (by omega) z2 z3 (by omega) ((hf3.trans rw_f.pile).trans z1)
            rw [mo_ap_ap, mo_ap_ap] at this
            rw [mo_ap_tk hstab, hwr1]
            have ea' : (mo_a G X).toNat = N + 1 := by omega
            rw [ea', if_pos (by omega)]
            have e : mo_l G X :: (mo_wa G (mo_wr G bd 40) X (N + 1) 0 ++ [41]) ++ rw_out G bd its = [mo_l G X] ++ ([40] ++ rw_out G bd (.inr (mo_g G X 0) :: rw_tj G X N 1 ++ .inl 41 :: its)) := by
              rw [List.cons_append, rw_out_app]
              show mo_l G X :: (((if (0 : Int) = 0 then 40 else 44) :: (mo_wr G bd 40 (mo_g G X 0) ++ mo_wa G (mo_wr G bd 40) X N (0 + 1)) ++ [41]) ++ rw_out G bd its) = _
              rw [if_pos rfl]
              show _ = mo_l G X :: 40 :: ((mo_wr G bd 40 (mo_g G X 0) ++ rw_out G bd (rw_tj G X N 1)) ++ ([41] ++ rw_out G bd its))
              rw [rw_tj_out N 1 (by omega)]
              simp
            rw [e]
            exact this
          · rw [show N + 1 - 1 - N = 0 by omega, rw_pile_up]
            show rw_P G made bd ta nc _ _ (.inl 41 :: its)
            have := rw_P_put (n := n - 1) (x := 100041) (it := .inl 41) (by omega) (pf := A3 92) (by rw [eP3]; exact p3) ⟨rfl, by decide, by decide⟩
            exact this
theorem rm_write (d : Nat) (hS : ty_st S) (hw : mo_wf G) (hb : mo_bw G made bd) (hnc : nc ≤ 24000) (hmade : made ≤ 13000) (hcell : ∀ c, 0 ≤ c → c < nc → rm_cell G made ta nc A c) (hrv : ∀ v, 0 ≤ v → v < made → rm_b ta nc (A 63 v) (bd v)) {x : Int} (hx : x < 0 ∧ -1 - x < made) :
    ty_C L xs (d + 2) 146 [.inr (.inr (some (94, 0))), .inl (ty_J x)] (rm_s S I A) (ty_oV fun S' => ∃ I' A', S' = rm_s S I' A' ∧ rw_W I' A' (mo_ap [] (mo_wr G bd 40 x)) ∧ rw_f I A I' A') := by
  refine ty_enter (ml := 5) (ls := [_, _, _, _, _]) rfl rfl (Nat.le_of_ble_eq_true rfl) ?_
  refine ty_iconst (pc := 0) (n := 1) (ks := []) (by decide +kernel) ?_
  refine ty_istore_n (pc := 1) (i := 2) (ks := []) (ls' := [_, _, _, _, _]) (by decide +kernel) rfl ?_
  refine ty_aload_n (pc := 2) (i := 0) (ks := []) (by decide +kernel) rfl ?_
  refine ty_iconst (pc := 3) (n := 0) (ks := []) (by decide +kernel) ?_
  refine ty_putI (pc := 4) (idx := 324) (ci := 13) (f := 63) (by decide +kernel) (by first | rfl | assumption) rfl rfl (by first | exact hS.1 _ _ rfl | assumption) ?_
  rw [rm_sI]
  refine ty_aload_n (pc := 7) (i := 0) (ks := []) (by decide +kernel) rfl ?_
  refine ty_getS (b := (92, 0)) (pc := 8) (idx := 132) (ci := 13) (f := 62) (by decide +kernel) (by first | rfl | assumption) rfl (by first | exact hS.1 _ _ rfl | assumption) (by first | exact hS.2.2 _ _ _ _ rfl | assumption) ?_
  refine ty_iconst (pc := 11) (n := 0) (ks := []) (by decide +kernel) ?_
  refine ty_iload_n (pc := 12) (i := 1) (ks := []) (by decide +kernel) rfl ?_
  refine ty_iastore (pc := 13) (ks := []) (by decide +kernel) (by first | rfl | assumption) (by rfl) (by first | exact hS.1 _ _ rfl | assumption) (by first | exact hS.2.1 _ _ _ rfl | assumption) (by omega) ?_
  rw [rm_sA (by decide)]
  -- at 14: .iload_n 2
  have hf : rw_f I A (rm_u I 63 0) (rm_w A 92 0 x) := ⟨fun k hk => if_neg hk, (rw_f.pile (I := I)).2⟩
  have hv : mo_vv bd x = mo_val G bd x := by
    unfold mo_vv mo_val
    rw [if_pos hx.1, if_pos hx.1]
  have := rw_loop (L := L) (xs := xs) (S := S) (I := I) (A := A) d hS hw hb hnc hmade hcell hrv (t := ty_J x) 80 (rm_u I 63 0) (rm_w A 92 0 x) [] 1 [.inr x] none none rfl ⟨rfl, by decide, trivial⟩ ⟨by decide, ?_, rfl⟩ (by decide) hf
  · show ty_W _ _ _ _ _ _ _ _ (ty_oV fun S' => ∃ I' A', S' = rm_s S I' A' ∧ rw_W I' A' (mo_ap [] (mo_wr G bd 40 x)) ∧ rw_f I A I' A')
    have e : rw_out G bd [.inr x] = mo_wr G bd 40 x := List.append_nil _
    rw [e] at this
    exact this
  · rw [rw_pile_up]
    have e : mo_up (A 92) 0 x (1 - 1) = x := if_pos rfl
    rw [e]
    exact ⟨x, .inl ⟨hx.1, rfl⟩, fun _ => hx.2, hv, .inr hx⟩
end RWW
