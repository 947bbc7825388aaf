/-! Which clauses fit a call, in the reference. -/
/-- the clauses' texts in the reference's rows -/
def rp (I : Nat → Int) (A : Nat → Int → Int) (tau : dk_T) (s : Nat → Nat) (m : Nat) : Prop := (I 8 = m ∧ m ≤ 12) ∧ ∀ i, i < m → ∀ t, tau (s i) = some t → A 55 i = t.length ∧ ∀ p : Int, 0 ≤ p → p < t.length → A 54 (48 * (i : Int) + p) = dk_f t p
theorem rp_K {I I' : Nat → Int} {A A' : Nat → Int → Int} {tau : dk_T} {s : Nat → Nat} {m : Nat} (h : rp I A tau s m) (hK : rx_K I A I' A') : rp I' A' tau s m := by
  obtain ⟨h1, h2⟩ := h
  refine ⟨⟨hK.1.2.1.trans h1.1, h1.2⟩, fun i hi t ht => ?_⟩
  rw [hK.2.2.1, hK.2.2.2.1]
  exact h2 i hi t ht
section RMF
variable {L : Nat} {xs : Nat → Int32} {S : ty_S} {I : Nat → Int} {A : Nat → Int → Int} {t : List Int} {ci : Int} {Q : ai_O → ty_S → Prop} {x2 : Int32} {d : Nat}
/-- the loop's head -/
def sc_h (L : Nat) (xs : Nat → Int32) (S : ty_S) (I : Nat → Int) (A : Nat → Int → Int) (d : Nat) (ci : Int) (x2 : Int32) (Q : ai_O → ty_S → Prop) (p D n : Int) : Prop := ∀ x6 : Option Int32, ty_W L xs d 127 28 [some (.inr (.inr (some (94, 0)))), some (.inl (ty_J ci)), some (.inl x2), some (.inl (ty_J D)), some (.inl (ty_J n)), some (.inl (ty_J p)), x6.map .inl] [] (rm_s S I A) Q
/-- one character -/
theorem sc_1 (hS : ty_st S) (hci : 0 ≤ ci ∧ ci < 12) (ht : t.length ≤ 48) (hch : ∀ c ∈ t, 33 ≤ c ∧ c ≤ 126) (hsz : A 55 ci = t.length) (hcl : ∀ p : Int, 0 ≤ p → p < t.length → A 54 (48 * ci + p) = dk_f t p) {p D n : Int} (hp : 2 ≤ p ∧ p < t.length) (hD : 1 ≤ D ∧ D ≤ 10) (hn : 0 ≤ n ∧ n ≤ 10)
    (k : dk_f t p ≠ 40 → dk_f t p ≠ 41 → dk_f t p ≠ 44 ∨ D ≠ 1 → sc_h L xs S I A d ci x2 Q (p + 1) D n) (k40 : dk_f t p = 40 → sc_h L xs S I A d ci x2 Q (p + 1) (D + 1) n) (k44 : dk_f t p = 44 → D = 1 → sc_h L xs S I A d ci x2 Q (p + 1) D (n + 1))
    (k41 : dk_f t p = 41 → D ≠ 1 → sc_h L xs S I A d ci x2 Q (p + 1) (D - 1) n) (ke : dk_f t p = 41 → D = 1 → ∀ (x3 x6 : Int32), ty_W L xs d 127 129 [some (.inr (.inr (some (94, 0)))), some (.inl (ty_J ci)), some (.inl x2), some (.inl x3), some (.inl (ty_J n)), some (.inl (ty_J p)), some (.inl x6)] [] (rm_s S I A) Q) : sc_h L xs S I A d ci x2 Q p D n := by
  intro x6
  have hr := dk_f_r hch (p := p)
  have hc0 := hcl p (by omega) hp.2
  rw [show 48 * ci + p = ci * 48 + p by omega] at hc0
  refine ty_iload (pc := 28) (i := 5) (ks := []) (by decide +kernel) rfl ?_
  refine ty_aload_n (pc := 30) (i := 0) (ks := []) (by decide +kernel) rfl ?_
  refine ty_getS (b := (55, 0)) (pc := 31) (idx := 16) (ci := 13) (f := 2) (by decide +kernel) (by first | rfl | assumption) rfl (by first | exact hS.1 _ _ rfl | assumption) (by first | exact hS.2.2 _ _ _ _ rfl | assumption) ?_
  refine ty_iload_n (pc := 34) (i := 1) (ks := []) (by decide +kernel) rfl ?_
  refine ty_iaload (pc := 35) (ks := []) (by decide +kernel) (by first | rfl | assumption) (by rfl) (by first | exact hS.1 _ _ rfl | assumption) (by first | exact hS.2.1 _ _ _ rfl | assumption) (by omega) (fun v hv => ?_)
  rw [rm_A (by decide)] at hv
  first | (simp (decide := true) only [rm_w, ty_sI, ty_sR, ty_sA, ty_sQ, ty_mA, ty_mQ, ↓reduceIte, false_and, and_false, true_and, and_true, and_self] at hv) | skip
  subst hv
  -- at 36: .if_icmp .ge 93
  rw [hsz]
  refine ty_icmp_ge (pc := 36) (off := 93) (t := 129) (ks := []) (by decide +kernel) (by omega) (by omega) (fun hc => ?_) (fun hc => ?_)
  · omega
  clear hc
  refine ty_aload_n (pc := 39) (i := 0) (ks := []) (by decide +kernel) rfl ?_
  refine ty_getS (b := (54, 0)) (pc := 40) (idx := 13) (ci := 13) (f := 1) (by decide +kernel) (by first | rfl | assumption) rfl (by first | exact hS.1 _ _ rfl | assumption) (by first | exact hS.2.2 _ _ _ _ rfl | assumption) ?_
  refine ty_iload_n (pc := 43) (i := 1) (ks := []) (by decide +kernel) rfl ?_
  refine ty_bipush (pc := 44) (n := 48) (ks := []) (by decide +kernel) (by omega) ?_
  refine ty_imul (pc := 46) (ks := []) (by decide +kernel) ?_
  refine ty_iload (pc := 47) (i := 5) (ks := []) (by decide +kernel) rfl ?_
  refine ty_iadd (pc := 49) (ks := []) (by decide +kernel) ?_
  refine ty_iaload (pc := 50) (ks := []) (by decide +kernel) (by first | rfl | assumption) (by rfl) (by first | exact hS.1 _ _ rfl | assumption) (by first | exact hS.2.1 _ _ _ rfl | assumption) (by omega) (fun v hv => ?_)
  rw [rm_A (by decide)] at hv
  first | (simp (decide := true) only [rm_w, ty_sI, ty_sR, ty_sA, ty_sQ, ty_mA, ty_mQ, ↓reduceIte, false_and, and_false, true_and, and_true, and_self] at hv) | skip
  subst hv
  -- at 51: .istore 6
  rw [hc0]
  refine ty_istore (pc := 51) (i := 6) (ks := []) (ls' := [_, _, _, _, _, _, _]) (by decide +kernel) rfl ?_
  refine ty_iload (pc := 53) (i := 5) (ks := []) (by decide +kernel) rfl ?_
  refine ty_iconst (pc := 55) (n := 1) (ks := []) (by decide +kernel) ?_
  -- at 56: .if_icmp .ne 13
  refine ty_icmp_ne (pc := 56) (off := 13) (t := 69) (ks := []) (by decide +kernel) (by omega) (by omega) (fun hc => ?_) (fun hc => ?_)
  rotate_left
  · omega
  clear hc
  refine ty_iload (pc := 69) (i := 6) (ks := []) (by decide +kernel) rfl ?_
  refine ty_bipush (pc := 71) (n := 40) (ks := []) (by decide +kernel) (by omega) ?_
  -- at 73: .if_icmp .ne 6
  by_cases e40 : dk_f t p = 40
  · refine ty_icmp_ne (pc := 73) (off := 6) (t := 79) (ks := []) (by decide +kernel) (by omega) (by omega) (fun hc => ?_) (fun hc => ?_)
    · omega
    clear hc
    refine ty_iinc (pc := 76) (i := 3) (n := 1) (ks := []) (ls' := [_, _, _, _, _, _, _]) (by decide +kernel) rfl rfl ?_
    refine ty_iload (pc := 79) (i := 6) (ks := []) (by decide +kernel) rfl ?_
    refine ty_bipush (pc := 81) (n := 40) (ks := []) (by decide +kernel) (by omega) ?_
    -- at 83: .if_icmp .ne 8
    refine ty_icmp_ne (pc := 83) (off := 8) (t := 91) (ks := []) (by decide +kernel) (by omega) (by omega) (fun hc => ?_) (fun hc => ?_)
    · omega
    clear hc
    refine ty_iload_n (pc := 86) (i := 3) (ks := []) (by decide +kernel) rfl ?_
    refine ty_iconst (pc := 87) (n := 1) (ks := []) (by decide +kernel) ?_
    -- at 88: .if_icmp .eq 15
    refine ty_icmp_eq (pc := 88) (off := 15) (t := 103) (ks := []) (by decide +kernel) (by omega) (by omega) (fun hc => ?_) (fun hc => ?_)
    · omega
    clear hc
    refine ty_iload (pc := 91) (i := 6) (ks := []) (by decide +kernel) rfl ?_
    refine ty_bipush (pc := 93) (n := 44) (ks := []) (by decide +kernel) (by omega) ?_
    -- at 95: .if_icmp .ne 11
    refine ty_icmp_ne (pc := 95) (off := 11) (t := 106) (ks := []) (by decide +kernel) (by omega) (by omega) (fun hc => ?_) (fun hc => ?_)
    rotate_left
    · omega
    clear hc
    refine ty_iload (pc := 106) (i := 6) (ks := []) (by decide +kernel) rfl ?_
    refine ty_bipush (pc := 108) (n := 41) (ks := []) (by decide +kernel) (by omega) ?_
    -- at 110: .if_icmp .ne 6
    refine ty_icmp_ne (pc := 110) (off := 6) (t := 116) (ks := []) (by decide +kernel) (by omega) (by omega) (fun hc => ?_) (fun hc => ?_)
    rotate_left
    · omega
    clear hc
    refine ty_iload_n (pc := 116) (i := 3) (ks := []) (by decide +kernel) rfl ?_
    -- at 117: .ifCond .ne 6
    refine ty_if_ne (pc := 117) (off := 6) (t := 123) (ks := []) (by decide +kernel) (by omega) (fun hc => ?_) (fun hc => ?_)
    rotate_left
    · omega
    clear hc
    refine ty_iinc (pc := 123) (i := 5) (n := 1) (ks := []) (ls' := [_, _, _, _, _, _, _]) (by decide +kernel) rfl rfl ?_
    refine ty_goto (pc := 126) (off := (-98)) (t := 28) (ks := []) (by decide +kernel) ?_
    -- at 28: .iload 5
    exact k40 e40 (some _)
  · refine ty_icmp_ne (pc := 73) (off := 6) (t := 79) (ks := []) (by decide +kernel) (by omega) (by omega) (fun hc => ?_) (fun hc => ?_)
    rotate_left
    · omega
    clear hc
    refine ty_iload (pc := 79) (i := 6) (ks := []) (by decide +kernel) rfl ?_
    refine ty_bipush (pc := 81) (n := 40) (ks := []) (by decide +kernel) (by omega) ?_
    -- at 83: .if_icmp .ne 8
    refine ty_icmp_ne (pc := 83) (off := 8) (t := 91) (ks := []) (by decide +kernel) (by omega) (by omega) (fun hc => ?_) (fun hc => ?_)
    rotate_left
    · omega
    clear hc
    refine ty_iload (pc := 91) (i := 6) (ks := []) (by decide +kernel) rfl ?_
    refine ty_bipush (pc := 93) (n := 44) (ks := []) (by decide +kernel) (by omega) ?_
    -- at 95: .if_icmp .ne 11
    by_cases e44 : dk_f t p = 44
    · refine ty_icmp_ne (pc := 95) (off := 11) (t := 106) (ks := []) (by decide +kernel) (by omega) (by omega) (fun hc => ?_) (fun hc => ?_)
      · omega
      clear hc
      refine ty_iload_n (pc := 98) (i := 3) (ks := []) (by decide +kernel) rfl ?_
      refine ty_iconst (pc := 99) (n := 1) (ks := []) (by decide +kernel) ?_
      -- at 100: .if_icmp .ne 6
      by_cases eD : D = 1
      · refine ty_icmp_ne (pc := 100) (off := 6) (t := 106) (ks := []) (by decide +kernel) (by omega) (by omega) (fun hc => ?_) (fun hc => ?_)
        · omega
        clear hc
        refine ty_iinc (pc := 103) (i := 4) (n := 1) (ks := []) (ls' := [_, _, _, _, _, _, _]) (by decide +kernel) rfl rfl ?_
        refine ty_iload (pc := 106) (i := 6) (ks := []) (by decide +kernel) rfl ?_
        refine ty_bipush (pc := 108) (n := 41) (ks := []) (by decide +kernel) (by omega) ?_
        -- at 110: .if_icmp .ne 6
        refine ty_icmp_ne (pc := 110) (off := 6) (t := 116) (ks := []) (by decide +kernel) (by omega) (by omega) (fun hc => ?_) (fun hc => ?_)
        rotate_left
        · omega
        clear hc
        refine ty_iload_n (pc := 116) (i := 3) (ks := []) (by decide +kernel) rfl ?_
        -- at 117: .ifCond .ne 6
        refine ty_if_ne (pc := 117) (off := 6) (t := 123) (ks := []) (by decide +kernel) (by omega) (fun hc => ?_) (fun hc => ?_)
        rotate_left
        · omega
        clear hc
        refine ty_iinc (pc := 123) (i := 5) (n := 1) (ks := []) (ls' := [_, _, _, _, _, _, _]) (by decide +kernel) rfl rfl ?_
        refine ty_goto (pc := 126) (off := (-98)) (t := 28) (ks := []) (by decide +kernel) ?_
        -- at 28: .iload 5
        exact k44 e44 eD (some _)
      · refine ty_icmp_ne (pc := 100) (off := 6) (t := 106) (ks := []) (by decide +kernel) (by omega) (by omega) (fun hc => ?_) (fun hc => ?_)
        rotate_left
        · omega
        clear hc
        refine ty_iload (pc := 106) (i := 6) (ks := []) (by decide +kernel) rfl ?_
        refine ty_bipush (pc := 108) (n := 41) (ks := []) (by decide +kernel) (by omega) ?_
        -- at 110: .if_icmp .ne 6
        refine ty_icmp_ne (pc := 110) (off := 6) (t := 116) (ks := []) (by decide +kernel) (by omega) (by omega) (fun hc => ?_) (fun hc => ?_)
        rotate_left
        · omega
        clear hc
        refine ty_iload_n (pc := 116) (i := 3) (ks := []) (by decide +kernel) rfl ?_
        -- at 117: .ifCond .ne 6
        refine ty_if_ne (pc := 117) (off := 6) (t := 123) (ks := []) (by decide +kernel) (by omega) (fun hc => ?_) (fun hc => ?_)
        rotate_left
        · omega
        clear hc
        refine ty_iinc (pc := 123) (i := 5) (n := 1) (ks := []) (ls' := [_, _, _, _, _, _, _]) (by decide +kernel) rfl rfl ?_
        refine ty_goto (pc := 126) (off := (-98)) (t := 28) (ks := []) (by decide +kernel) ?_
        -- at 28: .iload 5
        exact k e40 (by omega) (.inr eD) (some _)
    · refine ty_icmp_ne (pc := 95) (off := 11) (t := 106) (ks := []) (by decide +kernel) (by omega) (by omega) (fun hc => ?_) (fun hc => ?_)
      rotate_left
      · omega
      clear hc
      refine ty_iload (pc := 106) (i := 6) (ks := []) (by decide +kernel) rfl ?_
      refine ty_bipush (pc := 108) (n := 41) (ks := []) (by decide +kernel) (by omega) ?_
      -- at 110: .if_icmp .ne 6
      by_cases e41 : dk_f t p = 41
      · refine ty_icmp_ne (pc := 110) (off := 6) (t := 116) (ks := []) (by decide +kernel) (by omega) (by omega) (fun hc => ?_) (fun hc => ?_)
        · omega
        clear hc
        refine ty_iinc (pc := 113) (i := 3) (n := (-1)) (ks := []) (ls' := [_, _, _, _, _, _, _]) (by decide +kernel) rfl rfl ?_
        refine ty_iload_n (pc := 116) (i := 3) (ks := []) (by decide +kernel) rfl ?_
        -- at 117: .ifCond .ne 6
        by_cases eD : D = 1
        · refine ty_if_ne (pc := 117) (off := 6) (t := 123) (ks := []) (by decide +kernel) (by omega) (fun hc => ?_) (fun hc => ?_)
          · omega
          clear hc
          refine ty_goto (pc := 120) (off := 9) (t := 129) (ks := []) (by decide +kernel) ?_
          -- at 129: .iload 4
          exact ke e41 eD _ _
        · refine ty_if_ne (pc := 117) (off := 6) (t := 123) (ks := []) (by decide +kernel) (by omega) (fun hc => ?_) (fun hc => ?_)
          rotate_left
          · omega
          clear hc
          refine ty_iinc (pc := 123) (i := 5) (n := 1) (ks := []) (ls' := [_, _, _, _, _, _, _]) (by decide +kernel) rfl rfl ?_
          refine ty_goto (pc := 126) (off := (-98)) (t := 28) (ks := []) (by decide +kernel) ?_
          -- at 28: .iload 5
          rw [show D + -1 = D - 1 by omega]
          exact k41 e41 eD (some _)
      · refine ty_icmp_ne (pc := 110) (off := 6) (t := 116) (ks := []) (by decide +kernel) (by omega) (by omega) (fun hc => ?_) (fun hc => ?_)
        rotate_left
        · omega
        clear hc
        refine ty_iload_n (pc := 116) (i := 3) (ks := []) (by decide +kernel) rfl ?_
        -- at 117: .ifCond .ne 6
        refine ty_if_ne (pc := 117) (off := 6) (t := 123) (ks := []) (by decide +kernel) (by omega) (fun hc => ?_) (fun hc => ?_)
        rotate_left
        · omega
        clear hc
        refine ty_iinc (pc := 123) (i := 5) (n := 1) (ks := []) (ls' := [_, _, _, _, _, _, _]) (by decide +kernel) rfl rfl ?_
        refine ty_goto (pc := 126) (off := (-98)) (t := 28) (ks := []) (by decide +kernel) ?_
        -- at 28: .iload 5
        exact k e40 e41 (.inl e44) (some _)
theorem sc_a (hS : ty_st S) (hci : 0 ≤ ci ∧ ci < 12) (ht : t.length ≤ 48) (hch : ∀ c ∈ t, 33 ≤ c ∧ c ≤ 126) (hsz : A 55 ci = t.length) (hcl : ∀ p : Int, 0 ≤ p → p < t.length → A 54 (48 * ci + p) = dk_f t p) {m : Nat} {D : Int} (hD : 1 ≤ D ∧ D ≤ 9) (hd : ∀ p n : Int, 2 ≤ p → p ≤ t.length → 0 ≤ n → n ≤ 5 → (pt_t (dk_f t) m p).1 = true → sc_h L xs S I A d ci x2 Q (pt_t (dk_f t) m p).2.1 D n → sc_h L xs S I A d ci x2 Q p D n) :
    ∀ (r : Nat) (p n : Int), 2 ≤ p → p ≤ t.length → 0 ≤ n → n ≤ 5 → (D = 1 → n + r ≤ 5) → (pt_a (dk_f t) (pt_t (dk_f t) m) r p).1 = true → (D ≠ 1 → sc_h L xs S I A d ci x2 Q (pt_a (dk_f t) (pt_t (dk_f t) m) r p).2.1 (D - 1) n) → (D = 1 → ∀ (x3 x5 x6 : Int32), ty_W L xs d 127 129 [some (.inr (.inr (some (94, 0)))), some (.inl (ty_J ci)), some (.inl x2), some (.inl x3), some (.inl (ty_J (n + (pt_a (dk_f t) (pt_t (dk_f t) m) r p).2.2.1.length - 1))), some (.inl x5), some (.inl x6)] [] (rm_s S I A) Q) → sc_h L xs S I A d ci x2 Q p D n := by
  have hn : ∀ p, (t.length : Int) ≤ p → dk_f t p = 0 := fun p hp => dk_f_n hp
  intro r
  induction r with
  | zero => intro p n _ _ _ _ _ hok; exact absurd (show false = true from hok) (by decide)
  | succ r ih =>
    intro p n hp hpl hn0 hn5 hnr hok kD k1
    have step : pt_a (dk_f t) (pt_t (dk_f t) m) (r + 1) p = if (pt_t (dk_f t) m p).1 = false then (false, (pt_t (dk_f t) m p).2.1, [p], (pt_t (dk_f t) m p).2.2)
      else if dk_f t (pt_t (dk_f t) m p).2.1 = 41 then (true, (pt_t (dk_f t) m p).2.1 + 1, [p], (pt_t (dk_f t) m p).2.2)
      else if r = 0 ∨ dk_f t (pt_t (dk_f t) m p).2.1 ≠ 44 then (false, (pt_t (dk_f t) m p).2.1, [p], (pt_t (dk_f t) m p).2.2)
      else ((pt_a (dk_f t) (pt_t (dk_f t) m) r ((pt_t (dk_f t) m p).2.1 + 1)).1, (pt_a (dk_f t) (pt_t (dk_f t) m) r ((pt_t (dk_f t) m p).2.1 + 1)).2.1, p :: (pt_a (dk_f t) (pt_t (dk_f t) m) r ((pt_t (dk_f t) m p).2.1 + 1)).2.2.1, (pt_t (dk_f t) m p).2.2 ++ (pt_a (dk_f t) (pt_t (dk_f t) m) r ((pt_t (dk_f t) m p).2.1 + 1)).2.2.2) := rfl
    rw [step] at hok kD k1
    clear step
    have htk : (pt_t (dk_f t) m p).1 = true := by
      cases e : (pt_t (dk_f t) m p).1 with
      | true => rfl
      | false => rw [if_pos e] at hok; exact absurd (show false = true from hok) (by decide)
    rw [if_neg (by rw [htk]; decide)] at hok kD k1
    obtain ⟨s1, s2, s3⟩ := pt_t_spec hn m p (by omega) hpl
    have s4 := (s3 htk).1
    refine hd p n hp hpl hn0 hn5 htk ?_
    generalize (pt_t (dk_f t) m p).2.1 = p1 at hok kD k1 s1 s2 s4
    have lt : dk_f t p1 ≠ 0 → p1 < t.length := fun z => by
      by_cases w : (t.length : Int) ≤ p1
      · exact absurd (hn p1 w) z
      · omega
    by_cases e41 : dk_f t p1 = 41
    · rw [if_pos e41] at kD k1
      refine sc_1 hS hci ht hch hsz hcl ⟨by omega, lt (by omega)⟩ ⟨hD.1, by omega⟩ ⟨hn0, by omega⟩ (fun z1 z2 _ => absurd e41 z2) (fun z => by omega) (fun z => by omega) (fun _ z => kD z) (fun _ z x3 x6 => ?_)
      have := k1 z x3 (ty_J p1) x6
      simp only [List.length_cons, List.length_nil] at this
      rw [show n + ((0 + 1 : Nat) : Int) - 1 = n by omega] at this
      exact this
    · rw [if_neg e41] at hok kD k1
      by_cases e2 : r = 0 ∨ dk_f t p1 ≠ 44
      · rw [if_pos e2] at hok
        exact absurd (show false = true from hok) (by decide)
      rw [if_neg e2] at hok kD k1
      have e44 : dk_f t p1 = 44 := by omega
      have hlt := lt (by omega)
      refine sc_1 hS hci ht hch hsz hcl ⟨by omega, hlt⟩ ⟨hD.1, by omega⟩ ⟨hn0, by omega⟩ (fun _ _ z => ?_) (fun z => by omega) (fun _ z => ?_) (fun z => by omega) (fun z => by omega)
      · have hD1 : D ≠ 1 := by omega
        exact ih (p1 + 1) n (by omega) (by omega) hn0 hn5 (fun w => absurd w hD1) hok kD (fun w => absurd w hD1)
      · have hnr := hnr z
        refine ih (p1 + 1) (n + 1) (by omega) (by omega) (by omega) (by omega) (fun _ => by omega) hok (fun w => absurd z w) (fun w x3 x5 x6 => ?_)
        have := k1 w x3 x5 x6
        simp only [List.length_cons] at this
        rw [show ∀ l : Nat, n + ((l + 1 : Nat) : Int) - 1 = n + 1 + (l : Int) - 1 from fun l => by omega] at this
        exact this
theorem sc_t (hS : ty_st S) (hci : 0 ≤ ci ∧ ci < 12) (ht : t.length ≤ 48) (hch : ∀ c ∈ t, 33 ≤ c ∧ c ≤ 126) (hsz : A 55 ci = t.length) (hcl : ∀ p : Int, 0 ≤ p → p < t.length → A 54 (48 * ci + p) = dk_f t p) :
    ∀ (m : Nat) (p D n : Int), m + D ≤ 9 → 1 ≤ D → 2 ≤ p → p ≤ t.length → 0 ≤ n → n ≤ 5 → (pt_t (dk_f t) m p).1 = true → sc_h L xs S I A d ci x2 Q (pt_t (dk_f t) m p).2.1 D n → sc_h L xs S I A d ci x2 Q p D n := by
  have hn : ∀ p, (t.length : Int) ≤ p → dk_f t p = 0 := fun p hp => dk_f_n hp
  have lt : ∀ p, dk_f t p ≠ 0 → p < t.length := fun p z => by
    by_cases w : (t.length : Int) ≤ p
    · exact absurd (hn p w) z
    · omega
  have leaf : ∀ (p D n : Int), 1 ≤ D → D ≤ 9 → 2 ≤ p → 0 ≤ n → n ≤ 5 → pt_ch (dk_f t p) → sc_h L xs S I A d ci x2 Q (p + 1) D n → sc_h L xs S I A d ci x2 Q p D n := by
    intro p D n h1 h2 h3 h4 h5 hc k
    unfold pt_ch at hc
    exact sc_1 hS hci ht hch hsz hcl ⟨h3, lt p (by omega)⟩ ⟨h1, by omega⟩ ⟨h4, by omega⟩ (fun _ _ _ => k) (fun z => by omega) (fun z => by omega) (fun z => by omega) (fun z => by omega)
  intro m
  induction m with
  | zero =>
    intro p D n hm hD hp hpl hn0 hn5 hok k
    unfold pt_t at hok k
    by_cases e1 : ¬ pt_ch (dk_f t p)
    · rw [if_pos e1] at hok
      exact absurd (show false = true from hok) (by decide)
    rw [if_neg e1] at hok k
    by_cases e2 : (97 ≤ dk_f t p ∧ dk_f t p ≤ 122) ∧ dk_f t (p + 1) = 40
    · rw [if_pos e2] at hok
      exact absurd (show false = true from hok) (by decide)
    rw [if_neg e2] at k
    exact leaf p D n hD (by omega) hp hn0 hn5 (Decidable.not_not.mp e1) k
  | succ m ih =>
    intro p D n hm hD hp hpl hn0 hn5 hok k
    unfold pt_t at hok k
    by_cases e1 : ¬ pt_ch (dk_f t p)
    · rw [if_pos e1] at hok
      exact absurd (show false = true from hok) (by decide)
    rw [if_neg e1] at hok k
    by_cases e2 : (97 ≤ dk_f t p ∧ dk_f t p ≤ 122) ∧ dk_f t (p + 1) = 40
    · rw [if_pos e2] at hok k
      have hl1 := lt (p + 1) (by omega)
      refine leaf p D n hD (by omega) hp hn0 hn5 (Decidable.not_not.mp e1) ?_
      refine sc_1 hS hci ht hch hsz hcl ⟨by omega, hl1⟩ ⟨hD, by omega⟩ ⟨hn0, by omega⟩ (fun z => absurd e2.2 z) (fun _ => ?_) (fun z => by omega) (fun z => by omega) (fun z => by omega)
      rw [show p + 1 + 1 = p + 2 by omega]
      exact sc_a hS hci ht hch hsz hcl (D := D + 1) ⟨by omega, by omega⟩ (fun p' n' a1 a2 a3 a4 => ih p' (D + 1) n' (by omega) (by omega) a1 a2 a3 a4) 3 (p + 2) n (by omega) (by omega) hn0 hn5 (fun z => by omega) hok (fun _ => by rw [show D + 1 - 1 = D by omega]; exact k) (fun z => by omega)
    rw [if_neg e2] at k
    exact leaf p D n hD (by omega) hp hn0 hn5 (Decidable.not_not.mp e1) k
/-- a clause whose text is t, against a call whose cell is x -/
theorem rm_fits_t (d : Nat) (hS : ty_st S) (hci : 0 ≤ ci ∧ ci < 12) (ht : t.length ≤ 48) (hch : ∀ c ∈ t, 33 ≤ c ∧ c ≤ 126) (hsz : A 55 ci = t.length) (hcl : ∀ p : Int, 0 ≤ p → p < t.length → A 54 (48 * ci + p) = dk_f t p) (hlen : 0 < t.length) (hok : (pt_t (dk_f t) 5 0).1 = true) (h97 : 97 ≤ dk_f t 0 ∧ dk_f t 0 ≤ 122) {x l a : Int} (hx : 0 ≤ x ∧ x < 24000) (hl : A 60 x = l) (hlr : 0 ≤ l ∧ l ≤ 65535) (ha : A 61 x = a) (har : 0 ≤ a ∧ a ≤ 3) {as : List Int} {N : pt_N} (has : (pt_t (dk_f t) 5 0).2.2 = (0, as) :: N) :
    ty_C L xs (d + 1) 127 [.inr (.inr (some (94, 0))), .inl (ty_J ci), .inl (ty_J x)] (rm_s S I A) (ty_oI fun z S' => z = (if dk_f t 0 = l ∧ (as.length : Int) = a then 1 else 0) ∧ S' = rm_s S I A) := by
  have hn : ∀ p, (t.length : Int) ≤ p → dk_f t p = 0 := fun p hp => dk_f_n hp
  have hc0 := hcl 0 (by omega) (by omega)
  rw [show 48 * ci + 0 = ci * 48 by omega] at hc0
  refine ty_enter (ml := 7) (ls := [_, _, _, _, _, _, _]) rfl rfl (Nat.le_of_ble_eq_true rfl) ?_
  refine ty_aload_n (pc := 0) (i := 0) (ks := []) (by decide +kernel) rfl ?_
  refine ty_getS (b := (54, 0)) (pc := 1) (idx := 13) (ci := 13) (f := 1) (by decide +kernel) (by first | rfl | assumption) rfl (by first | exact hS.1 _ _ rfl | assumption) (by first | exact hS.2.2 _ _ _ _ rfl | assumption) ?_
  refine ty_iload_n (pc := 4) (i := 1) (ks := []) (by decide +kernel) rfl ?_
  refine ty_bipush (pc := 5) (n := 48) (ks := []) (by decide +kernel) (by omega) ?_
  refine ty_imul (pc := 7) (ks := []) (by decide +kernel) ?_
  refine ty_iaload (pc := 8) (ks := []) (by decide +kernel) (by first | rfl | assumption) (by rfl) (by first | exact hS.1 _ _ rfl | assumption) (by first | exact hS.2.1 _ _ _ rfl | assumption) (by omega) (fun v hv => ?_)
  rw [rm_A (by decide)] at hv
  first | (simp (decide := true) only [rm_w, ty_sI, ty_sR, ty_sA, ty_sQ, ty_mA, ty_mQ, ↓reduceIte, false_and, and_false, true_and, and_true, and_self] at hv) | skip
  subst hv
  refine ty_aload_n (pc := 9) (i := 0) (ks := []) (by decide +kernel) rfl ?_
  refine ty_getS (b := (60, 0)) (pc := 10) (idx := 35) (ci := 13) (f := 14) (by decide +kernel) (by first | rfl | assumption) rfl (by first | exact hS.1 _ _ rfl | assumption) (by first | exact hS.2.2 _ _ _ _ rfl | assumption) ?_
  refine ty_iload_n (pc := 13) (i := 2) (ks := []) (by decide +kernel) rfl ?_
  refine ty_iaload (pc := 14) (ks := []) (by decide +kernel) (by first | rfl | assumption) (by rfl) (by first | exact hS.1 _ _ rfl | assumption) (by first | exact hS.2.1 _ _ _ rfl | assumption) (by omega) (fun v hv => ?_)
  rw [rm_A (by decide)] at hv
  first | (simp (decide := true) only [rm_w, ty_sI, ty_sR, ty_sA, ty_sQ, ty_mA, ty_mQ, ↓reduceIte, false_and, and_false, true_and, and_true, and_self] at hv) | skip
  subst hv
  -- at 15: .if_icmp .eq 5
  rw [hc0, hl]
  refine ty_icmp_eq (pc := 15) (off := 5) (t := 20) (ks := []) (by decide +kernel) (by omega) (by omega) (fun hc => ?_) (fun hc => ?_)
  rotate_left
  · refine ty_iconst (pc := 18) (n := 0) (ks := []) (by decide +kernel) ?_
    -- at 19: .ireturn
    refine ty_ret_i (pc := 19) (ks := []) (ty := .boolean) (by decide +kernel) rfl (ty_fit_z (by omega)) ?_
    exact ⟨0, rfl, by rw [if_neg (fun q => hc q.1)], rfl⟩
  have hl0 := hc
  clear hc
  -- the end
  have fin : ∀ (n : Int) (x3 x5 : Int32) (x6 : Option Int32), n = as.length → ty_W L xs d 127 129 [some (.inr (.inr (some (94, 0)))), some (.inl (ty_J ci)), some (.inl (ty_J x)), some (.inl x3), some (.inl (ty_J n)), some (.inl x5), x6.map .inl] [] (rm_s S I A) (ty_oI fun z S' => z = (if dk_f t 0 = l ∧ (as.length : Int) = a then 1 else 0) ∧ S' = rm_s S I A) := by
    intro n x3 x5 x6 hn1
    have has3 : as.length ≤ 3 := by
      obtain ⟨s1, s2, s3⟩ := pt_t_spec hn 5 0 (by omega) (by omega)
      exact ((s3 hok).2.1 0 as (by rw [has]; exact List.mem_cons_self)).2.1
    refine ty_iload (pc := 129) (i := 4) (ks := []) (by decide +kernel) rfl ?_
    refine ty_aload_n (pc := 131) (i := 0) (ks := []) (by decide +kernel) rfl ?_
    refine ty_getS (b := (61, 0)) (pc := 132) (idx := 38) (ci := 13) (f := 15) (by decide +kernel) (by first | rfl | assumption) rfl (by first | exact hS.1 _ _ rfl | assumption) (by first | exact hS.2.2 _ _ _ _ rfl | assumption) ?_
    refine ty_iload_n (pc := 135) (i := 2) (ks := []) (by decide +kernel) rfl ?_
    refine ty_iaload (pc := 136) (ks := []) (by decide +kernel) (by first | rfl | assumption) (by rfl) (by first | exact hS.1 _ _ rfl | assumption) (by first | exact hS.2.1 _ _ _ rfl | assumption) (by omega) (fun v hv => ?_)
    rw [rm_A (by decide)] at hv
    first | (simp (decide := true) only [rm_w, ty_sI, ty_sR, ty_sA, ty_sQ, ty_mA, ty_mQ, ↓reduceIte, false_and, and_false, true_and, and_true, and_self] at hv) | skip
    subst hv
    -- at 137: .if_icmp .ne 7
    rw [ha]
    refine ty_icmp_ne (pc := 137) (off := 7) (t := 144) (ks := []) (by decide +kernel) (by omega) (by omega) (fun hc => ?_) (fun hc => ?_)
    · refine ty_iconst (pc := 144) (n := 0) (ks := []) (by decide +kernel) ?_
      -- at 145: .ireturn
      refine ty_ret_i (pc := 145) (ks := []) (ty := .boolean) (by decide +kernel) rfl (ty_fit_z (by omega)) ?_
      exact ⟨0, rfl, by rw [if_neg (fun q => hc (by omega))], rfl⟩
    · refine ty_iconst (pc := 140) (n := 1) (ks := []) (by decide +kernel) ?_
      refine ty_goto (pc := 141) (off := 4) (t := 145) (ks := []) (by decide +kernel) ?_
      -- at 145: .ireturn
      refine ty_ret_i (pc := 145) (ks := []) (ty := .boolean) (by decide +kernel) rfl (ty_fit_z (by omega)) ?_
      exact ⟨1, rfl, by rw [if_pos ⟨hl0, by omega⟩], rfl⟩
  refine ty_iconst (pc := 20) (n := 0) (ks := []) (by decide +kernel) ?_
  refine ty_istore_n (pc := 21) (i := 3) (ks := []) (ls' := [_, _, _, _, _, _, _]) (by decide +kernel) rfl ?_
  refine ty_iconst (pc := 22) (n := 0) (ks := []) (by decide +kernel) ?_
  refine ty_istore (pc := 23) (i := 4) (ks := []) (ls' := [_, _, _, _, _, _, _]) (by decide +kernel) rfl ?_
  refine ty_iconst (pc := 25) (n := 1) (ks := []) (by decide +kernel) ?_
  refine ty_istore (pc := 26) (i := 5) (ks := []) (ls' := [_, _, _, _, _, _, _]) (by decide +kernel) rfl ?_
  -- at 28: .iload 5
  unfold pt_t at hok has
  rw [if_neg (not_not_intro (.inr (.inr h97)))] at hok has
  by_cases e2 : (97 ≤ dk_f t 0 ∧ dk_f t 0 ≤ 122) ∧ dk_f t (0 + 1) = 40
  · rw [if_pos e2] at hok has
    have e40 : dk_f t 1 = 40 := e2.2
    have hl1 : (1 : Int) < t.length := by
      by_cases w : (t.length : Int) ≤ 1
      · have := hn 1 w
        omega
      · omega
    have hc1 := hcl 1 (by omega) hl1
    rw [show 48 * ci + 1 = ci * 48 + 1 by omega] at hc1
    have hasl : as = (pt_a (dk_f t) (pt_t (dk_f t) 4) 3 (0 + 2)).2.2.1 := by
      have := has
      injection this with h1 h2
      injection h1 with h3 h4
      exact h4.symm
    refine ty_iload (pc := 28) (i := 5) (ks := []) (by decide +kernel) rfl ?_
    refine ty_aload_n (pc := 30) (i := 0) (ks := []) (by decide +kernel) rfl ?_
    refine ty_getS (b := (55, 0)) (pc := 31) (idx := 16) (ci := 13) (f := 2) (by decide +kernel) (by first | rfl | assumption) rfl (by first | exact hS.1 _ _ rfl | assumption) (by first | exact hS.2.2 _ _ _ _ rfl | assumption) ?_
    refine ty_iload_n (pc := 34) (i := 1) (ks := []) (by decide +kernel) rfl ?_
    refine ty_iaload (pc := 35) (ks := []) (by decide +kernel) (by first | rfl | assumption) (by rfl) (by first | exact hS.1 _ _ rfl | assumption) (by first | exact hS.2.1 _ _ _ rfl | assumption) (by omega) (fun v hv => ?_)
    rw [rm_A (by decide)] at hv
    first | (simp (decide := true) only [rm_w, ty_sI, ty_sR, ty_sA, ty_sQ, ty_mA, ty_mQ, ↓reduceIte, false_and, and_false, true_and, and_true, and_self] at hv) | skip
    subst hv
    -- at 36: .if_icmp .ge 93
    rw [hsz]
    refine ty_icmp_ge (pc := 36) (off := 93) (t := 129) (ks := []) (by decide +kernel) (by omega) (by omega) (fun hc => ?_) (fun hc => ?_)
    · omega
    clear hc
    refine ty_aload_n (pc := 39) (i := 0) (ks := []) (by decide +kernel) rfl ?_
    refine ty_getS (b := (54, 0)) (pc := 40) (idx := 13) (ci := 13) (f := 1) (by decide +kernel) (by first | rfl | assumption) rfl (by first | exact hS.1 _ _ rfl | assumption) (by first | exact hS.2.2 _ _ _ _ rfl | assumption) ?_
    refine ty_iload_n (pc := 43) (i := 1) (ks := []) (by decide +kernel) rfl ?_
    refine ty_bipush (pc := 44) (n := 48) (ks := []) (by decide +kernel) (by omega) ?_
    refine ty_imul (pc := 46) (ks := []) (by decide +kernel) ?_
    refine ty_iload (pc := 47) (i := 5) (ks := []) (by decide +kernel) rfl ?_
    refine ty_iadd (pc := 49) (ks := []) (by decide +kernel) ?_
    refine ty_iaload (pc := 50) (ks := []) (by decide +kernel) (by first | rfl | assumption) (by rfl) (by first | exact hS.1 _ _ rfl | assumption) (by first | exact hS.2.1 _ _ _ rfl | assumption) (by omega) (fun v hv => ?_)
    rw [rm_A (by decide)] at hv
    first | (simp (decide := true) only [rm_w, ty_sI, ty_sR, ty_sA, ty_sQ, ty_mA, ty_mQ, ↓reduceIte, false_and, and_false, true_and, and_true, and_self] at hv) | skip
    subst hv
    -- at 51: .istore 6
    rw [hc1, e40]
    refine ty_istore (pc := 51) (i := 6) (ks := []) (ls' := [_, _, _, _, _, _, _]) (by decide +kernel) rfl ?_
    refine ty_iload (pc := 53) (i := 5) (ks := []) (by decide +kernel) rfl ?_
    refine ty_iconst (pc := 55) (n := 1) (ks := []) (by decide +kernel) ?_
    -- at 56: .if_icmp .ne 13
    refine ty_icmp_ne (pc := 56) (off := 13) (t := 69) (ks := []) (by decide +kernel) (by omega) (by omega) (fun hc => ?_) (fun hc => ?_)
    · omega
    clear hc
    refine ty_iload (pc := 59) (i := 6) (ks := []) (by decide +kernel) rfl ?_
    refine ty_bipush (pc := 61) (n := 40) (ks := []) (by decide +kernel) (by omega) ?_
    -- at 63: .if_icmp .eq 6
    refine ty_icmp_eq (pc := 63) (off := 6) (t := 69) (ks := []) (by decide +kernel) (by omega) (by omega) (fun hc => ?_) (fun hc => ?_)
    rotate_left
    · omega
    clear hc
    refine ty_iload (pc := 69) (i := 6) (ks := []) (by decide +kernel) rfl ?_
    refine ty_bipush (pc := 71) (n := 40) (ks := []) (by decide +kernel) (by omega) ?_
    -- at 73: .if_icmp .ne 6
    refine ty_icmp_ne (pc := 73) (off := 6) (t := 79) (ks := []) (by decide +kernel) (by omega) (by omega) (fun hc => ?_) (fun hc => ?_)
    · omega
    clear hc
    refine ty_iinc (pc := 76) (i := 3) (n := 1) (ks := []) (ls' := [_, _, _, _, _, _, _]) (by decide +kernel) rfl rfl ?_
    refine ty_iload (pc := 79) (i := 6) (ks := []) (by decide +kernel) rfl ?_
    refine ty_bipush (pc := 81) (n := 40) (ks := []) (by decide +kernel) (by omega) ?_
    -- at 83: .if_icmp .ne 8
    refine ty_icmp_ne (pc := 83) (off := 8) (t := 91) (ks := []) (by decide +kernel) (by omega) (by omega) (fun hc => ?_) (fun hc => ?_)
    · omega
    clear hc
    refine ty_iload_n (pc := 86) (i := 3) (ks := []) (by decide +kernel) rfl ?_
    refine ty_iconst (pc := 87) (n := 1) (ks := []) (by decide +kernel) ?_
    -- at 88: .if_icmp .eq 15
    refine ty_icmp_eq (pc := 88) (off := 15) (t := 103) (ks := []) (by decide +kernel) (by omega) (by omega) (fun hc => ?_) (fun hc => ?_)
    rotate_left
    · omega
    clear hc
    refine ty_iinc (pc := 103) (i := 4) (n := 1) (ks := []) (ls' := [_, _, _, _, _, _, _]) (by decide +kernel) rfl rfl ?_
    refine ty_iload (pc := 106) (i := 6) (ks := []) (by decide +kernel) rfl ?_
    refine ty_bipush (pc := 108) (n := 41) (ks := []) (by decide +kernel) (by omega) ?_
    -- at 110: .if_icmp .ne 6
    refine ty_icmp_ne (pc := 110) (off := 6) (t := 116) (ks := []) (by decide +kernel) (by omega) (by omega) (fun hc => ?_) (fun hc => ?_)
    rotate_left
    · omega
    clear hc
    refine ty_iload_n (pc := 116) (i := 3) (ks := []) (by decide +kernel) rfl ?_
    -- at 117: .ifCond .ne 6
    refine ty_if_ne (pc := 117) (off := 6) (t := 123) (ks := []) (by decide +kernel) (by omega) (fun hc => ?_) (fun hc => ?_)
    rotate_left
    · omega
    clear hc
    refine ty_iinc (pc := 123) (i := 5) (n := 1) (ks := []) (ls' := [_, _, _, _, _, _, _]) (by decide +kernel) rfl rfl ?_
    refine ty_goto (pc := 126) (off := (-98)) (t := 28) (ks := []) (by decide +kernel) ?_
    -- at 28: .iload 5
    have := sc_a (L := L) (xs := xs) (S := S) (I := I) (A := A) (d := d) (x2 := ty_J x) (Q := ty_oI fun z S' => z = (if dk_f t 0 = l ∧ (as.length : Int) = a then 1 else 0) ∧ S' = rm_s S I A) hS hci ht hch hsz hcl (m := 4) (D := 1) ⟨by decide, by decide⟩ (fun p' n' a1 a2 a3 a4 => sc_t hS hci ht hch hsz hcl 4 p' 1 n' (by decide) (by decide) a1 a2 a3 a4) 3 2 1 (by decide) (by omega) (by decide) (by decide) (fun _ => by decide) hok (fun z => absurd rfl z) (fun _ x3 x5 x6 => fin _ x3 x5 (some x6) (by rw [hasl, show (0 : Int) + 2 = 2 from rfl]; omega))
    exact this (some _)
  · rw [if_neg e2] at has
    have e40 : dk_f t 1 ≠ 40 := fun z => e2 ⟨h97, z⟩
    have hasl : as = [] := by
      injection has with h1 h2
      injection h1 with h3 h4
      exact h4.symm
    have hr1 := dk_f_r hch (p := 1)
    refine ty_iload (pc := 28) (i := 5) (ks := []) (by decide +kernel) rfl ?_
    refine ty_aload_n (pc := 30) (i := 0) (ks := []) (by decide +kernel) rfl ?_
    refine ty_getS (b := (55, 0)) (pc := 31) (idx := 16) (ci := 13) (f := 2) (by decide +kernel) (by first | rfl | assumption) rfl (by first | exact hS.1 _ _ rfl | assumption) (by first | exact hS.2.2 _ _ _ _ rfl | assumption) ?_
    refine ty_iload_n (pc := 34) (i := 1) (ks := []) (by decide +kernel) rfl ?_
    refine ty_iaload (pc := 35) (ks := []) (by decide +kernel) (by first | rfl | assumption) (by rfl) (by first | exact hS.1 _ _ rfl | assumption) (by first | exact hS.2.1 _ _ _ rfl | assumption) (by omega) (fun v hv => ?_)
    rw [rm_A (by decide)] at hv
    first | (simp (decide := true) only [rm_w, ty_sI, ty_sR, ty_sA, ty_sQ, ty_mA, ty_mQ, ↓reduceIte, false_and, and_false, true_and, and_true, and_self] at hv) | skip
    subst hv
    -- at 36: .if_icmp .ge 93
    rw [hsz]
    refine ty_icmp_ge (pc := 36) (off := 93) (t := 129) (ks := []) (by decide +kernel) (by omega) (by omega) (fun hc => ?_) (fun hc => ?_)
    · exact fin 0 _ _ none (by rw [hasl]; rfl)
    · have hc1 := hcl 1 (by omega) (by omega)
      rw [show 48 * ci + 1 = ci * 48 + 1 by omega] at hc1
      clear hc
      refine ty_aload_n (pc := 39) (i := 0) (ks := []) (by decide +kernel) rfl ?_
      refine ty_getS (b := (54, 0)) (pc := 40) (idx := 13) (ci := 13) (f := 1) (by decide +kernel) (by first | rfl | assumption) rfl (by first | exact hS.1 _ _ rfl | assumption) (by first | exact hS.2.2 _ _ _ _ rfl | assumption) ?_
      refine ty_iload_n (pc := 43) (i := 1) (ks := []) (by decide +kernel) rfl ?_
      refine ty_bipush (pc := 44) (n := 48) (ks := []) (by decide +kernel) (by omega) ?_
      refine ty_imul (pc := 46) (ks := []) (by decide +kernel) ?_
      refine ty_iload (pc := 47) (i := 5) (ks := []) (by decide +kernel) rfl ?_
      refine ty_iadd (pc := 49) (ks := []) (by decide +kernel) ?_
      refine ty_iaload (pc := 50) (ks := []) (by decide +kernel) (by first | rfl | assumption) (by rfl) (by first | exact hS.1 _ _ rfl | assumption) (by first | exact hS.2.1 _ _ _ rfl | assumption) (by omega) (fun v hv => ?_)
      rw [rm_A (by decide)] at hv
      first | (simp (decide := true) only [rm_w, ty_sI, ty_sR, ty_sA, ty_sQ, ty_mA, ty_mQ, ↓reduceIte, false_and, and_false, true_and, and_true, and_self] at hv) | skip
      subst hv
      -- at 51: .istore 6
      rw [hc1]
      refine ty_istore (pc := 51) (i := 6) (ks := []) (ls' := [_, _, _, _, _, _, _]) (by decide +kernel) rfl ?_
      refine ty_iload (pc := 53) (i := 5) (ks := []) (by decide +kernel) rfl ?_
      refine ty_iconst (pc := 55) (n := 1) (ks := []) (by decide +kernel) ?_
      -- at 56: .if_icmp .ne 13
      refine ty_icmp_ne (pc := 56) (off := 13) (t := 69) (ks := []) (by decide +kernel) (by omega) (by omega) (fun hc => ?_) (fun hc => ?_)
      · omega
      clear hc
      refine ty_iload (pc := 59) (i := 6) (ks := []) (by decide +kernel) rfl ?_
      refine ty_bipush (pc := 61) (n := 40) (ks := []) (by decide +kernel) (by omega) ?_
      -- at 63: .if_icmp .eq 6
      refine ty_icmp_eq (pc := 63) (off := 6) (t := 69) (ks := []) (by decide +kernel) (by omega) (by omega) (fun hc => ?_) (fun hc => ?_)
      · omega
      clear hc
      refine ty_goto (pc := 66) (off := 63) (t := 129) (ks := []) (by decide +kernel) ?_
      -- at 129: .iload 4
      exact fin 0 _ _ (some _) (by rw [hasl]; rfl)
end RMF
