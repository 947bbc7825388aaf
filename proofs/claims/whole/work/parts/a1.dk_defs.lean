/-! The desk. A text is a list; tau says which texts stand in which slot: 0 to 11 clauses, 12 the question. -/
def dk_f (t : List Int) : Int → Int := fun p => if 0 ≤ p ∧ p < t.length then t.getD p.toNat 0 else 0
/-- how a slot's text was read -/
def dk_r (x : Nat) (t : List Int) : Bool × Int × List (Int × Int × Int) × pt_N := if x = 12 then pt_gs (dk_f t) 24 0 else pt_c (dk_f t)
def dk_nv (t : List Int) : Int := pv_k (dk_f t) t.length 26
def dk_a (x : Nat) : ai_A := if x = 12 then (15, 0) else (14, x)
abbrev dk_T : Type := Nat → Option (List Int)
/-- a text that may stand there -/
def dk_ok (x : Nat) (t : List Int) : Prop := x ≤ 12 ∧ t.length ≤ 48 ∧ (∀ c ∈ t, 33 ≤ c ∧ c ≤ 126) ∧ (dk_r x t).1 = true
/-- the class's rows hold the texts -/
def dk_U (S : ty_S) (tau : dk_T) : Prop := ∀ x t, tau x = some t → dk_ok x t ∧ cr_G S (dk_f t) t.length t.length (dk_a x) x (dk_r x t).2.2.1 (dk_r x t).2.2.2
def dk_v (tau : dk_T) (n : Int) : Prop := ∃ x t p as, tau x = some t ∧ (p, as) ∈ (dk_r x t).2.2.2 ∧ n = 48 * (x : Int) + p
def dk_nb (tau : dk_T) (b : Int) : Int := match tau b.toNat with
  | some t => dk_nv t
  | none => 0
def dk_G (S : ty_S) (tau : dk_T) : mo_G := (S.2.2.1 (19, 0), S.2.2.1 (20, 0), S.2.2.1 (21, 0), S.2.2.1 (22, 0), dk_nb tau, dk_v tau)
/-- a slot's goals -/
def dk_gs (tau : dk_T) (x : Nat) : List (Int × Int × Int) := match tau x with
  | some t => (dk_r x t).2.2.1.map (pt_abs x)
  | none => []
def dk_P (S : ty_S) (tau : dk_T) (s : Nat → Nat) (m : Nat) : mo_P := (dk_G S tau, m, fun i => 48 * (s i.toNat : Int), fun i => dk_nb tau (s i.toNat), fun i => dk_gs tau (s i.toNat))
theorem dk_f_n {t : List Int} {p : Int} (h : (t.length : Int) ≤ p) : dk_f t p = 0 := if_neg (by omega)
theorem dk_f_mem {t : List Int} {p : Int} (h : 0 ≤ p ∧ p < t.length) : dk_f t p ∈ t := by
  unfold dk_f
  rw [if_pos h, List.getD_eq_getElem?_getD, List.getElem?_eq_getElem (show p.toNat < t.length by omega)]
  exact List.getElem_mem _
/-- what a text read well is like, in its slot -/
theorem dk_spec {x : Nat} {t : List Int} (h : dk_ok x t) : 0 < (dk_r x t).2.1 ∧ (dk_r x t).2.1 = t.length ∧ pt_W (dk_r x t).2.2.2 0 t.length ∧ pt_na (dk_f t) 0 t.length ∧ (∀ g ∈ (dk_r x t).2.2.1, pt_gk (dk_r x t).2.2.2 g) ∧ (dk_r x t).2.2.1.length ≤ 24 ∧ (x ≠ 12 → (∃ as, (0, as) ∈ (dk_r x t).2.2.2) ∧ 97 ≤ dk_f t 0 ∧ dk_f t 0 ≤ 122) := by
  obtain ⟨h1, h2, h3, h4⟩ := h
  have hn : ∀ p, (t.length : Int) ≤ p → dk_f t p = 0 := fun p hp => dk_f_n hp
  have h0 : ∀ p, 0 ≤ p → p ≤ (t.length : Int) → dk_f t p = 0 → p = t.length := fun p p0 p1 hz => by
    by_cases e : p < (t.length : Int)
    · have := h3 _ (dk_f_mem ⟨p0, e⟩)
      omega
    · omega
  unfold dk_r at h4 ⊢
  by_cases e : x = 12
  · rw [if_pos e] at h4 ⊢
    obtain ⟨s1, s2, s3, s4⟩ := pt_gs_spec hn 24 0 (Int.le_refl _) (by omega)
    obtain ⟨v1, v2, v3, v4, v5⟩ := s4 h4
    have e2 := h0 _ s1 s2 v2
    rw [e2] at v1 v3 v4 ⊢
    exact ⟨v1, rfl, v3, v4, v5, s3, fun w => absurd e w⟩
  · rw [if_neg e] at h4 ⊢
    obtain ⟨s1, s2, s3, s4⟩ := pt_c_spec hn (by omega)
    obtain ⟨v1, v2, v3, v4, v5, v6, v7⟩ := s4 h4
    have e2 := h0 _ s1 s2 v2
    rw [e2] at v1 v3 v4 ⊢
    exact ⟨v1, rfl, v3, v4, v5, s3, fun _ => ⟨v6, v7⟩⟩
theorem dk_nv_r {x : Nat} {t : List Int} (h : dk_ok x t) : 0 ≤ dk_nv t ∧ dk_nv t ≤ 24 := ⟨(pv_k_r 26).1, pv_24 (dk_spec h).2.2.2.1 h.2.1⟩
/-- a node: its slot and place, and what the rows say there -/
theorem dk_node {S : ty_S} {tau : dk_T} (hU : dk_U S tau) {x : Nat} {t : List Int} {p : Int} {as : List Int} (ht : tau x = some t) (hm : (p, as) ∈ (dk_r x t).2.2.2) : (x ≤ 12 ∧ 0 ≤ p ∧ p < t.length ∧ t.length ≤ 48) ∧ S.2.2.1 (19, 0) (48 * x + p) = dk_f t p ∧ S.2.2.1 (20, 0) (48 * x + p) = as.length ∧ as.length ≤ 3 ∧ (∀ (k : Nat) (b : Int), as[k]? = some b → S.2.2.1 (21, 0) ((48 * x + p) * 3 + k) = 48 * x + b ∧ ∃ bs, (b, bs) ∈ (dk_r x t).2.2.2) ∧ (65 ≤ dk_f t p ∧ dk_f t p ≤ 90 → S.2.2.1 (22, 0) (48 * x + p) = pv_r (dk_f t) t.length (dk_f t p - 65).toNat ∧ pv_oc (dk_f t) t.length (dk_f t p - 65).toNat = true) := by
  obtain ⟨h1, ⟨g1, g2, g3, g4⟩⟩ := hU x t ht
  obtain ⟨s1, s2, s3, s4, s5, s6, s7⟩ := dk_spec h1
  obtain ⟨w1, w2, w3⟩ := s3 p as hm
  obtain ⟨a1, a2, a3⟩ := g2 p as hm
  refine ⟨⟨h1.1, w1.1, w1.2, h1.2.1⟩, a1, a2, w2, fun k b hk => ⟨a3 k b hk, w3 b (List.mem_of_getElem? hk)⟩, fun hv => ?_⟩
  have e : (p.toNat : Int) = p := by omega
  constructor
  · have := g4 p.toNat (dk_f t p - 65).toNat (by omega) (by omega) (by rw [e]; omega)
    rw [e] at this
    exact this
  · exact pv_oc_iff.mpr ⟨p.toNat, by omega, by rw [e]; omega⟩
theorem dk_wf {S : ty_S} {tau : dk_T} (hU : dk_U S tau) : mo_wf (dk_G S tau) := by
  rintro n ⟨x, t, p, as, ht, hm, rfl⟩
  obtain ⟨h1, h2, h3, h4, h5, h6⟩ := dk_node hU ht hm
  have ok := (hU x t ht).1
  have hb : (48 * (x : Int) + p) / 48 = x := by omega
  have hch : 0 ≤ dk_f t p ∧ dk_f t p ≤ 126 := by
    have := ok.2.2.1 _ (dk_f_mem ⟨h1.2.1, h1.2.2.1⟩)
    omega
  have hnb : dk_nb tau (x : Int) = dk_nv t := by
    unfold dk_nb
    rw [show ((x : Int)).toNat = x by omega, ht]
  refine ⟨by omega, ?_, ?_, fun k k0 k1 => ?_, fun hv => ?_, ?_⟩
  · show 0 ≤ S.2.2.1 (19, 0) (48 * x + p) ∧ S.2.2.1 (19, 0) (48 * x + p) ≤ 65535
    rw [h2]
    omega
  · show 0 ≤ S.2.2.1 (20, 0) (48 * x + p) ∧ S.2.2.1 (20, 0) (48 * x + p) ≤ 3
    rw [h3]
    omega
  · have k1 : k < S.2.2.1 (20, 0) (48 * x + p) := k1
    rw [h3] at k1
    have hk : as[k.toNat]? = some as[k.toNat] := List.getElem?_eq_getElem (by omega)
    obtain ⟨q1, bs, q2⟩ := h5 k.toNat _ hk
    rw [show ((k.toNat : Nat) : Int) = k by omega] at q1
    show dk_v tau (S.2.2.1 (21, 0) ((48 * x + p) * 3 + k)) ∧ S.2.2.1 (21, 0) ((48 * x + p) * 3 + k) / 48 = (48 * x + p) / 48
    rw [q1]
    obtain ⟨r1, -⟩ := dk_node hU ht q2
    exact ⟨⟨x, t, _, bs, ht, q2, rfl⟩, by omega⟩
  · have hv : 65 ≤ S.2.2.1 (19, 0) (48 * x + p) ∧ S.2.2.1 (19, 0) (48 * x + p) ≤ 90 := hv
    rw [h2] at hv
    obtain ⟨q1, q2⟩ := h6 hv
    show 0 ≤ S.2.2.1 (22, 0) (48 * x + p) ∧ S.2.2.1 (22, 0) (48 * x + p) < dk_nb tau ((48 * x + p) / 48)
    rw [q1, hb, hnb]
    exact pv_r_lt (by omega) q2
  · show 0 ≤ dk_nb tau ((48 * x + p) / 48)
    rw [hb, hnb]
    exact (dk_nv_r ok).1
/-- s tells the clauses' slots -/
def dk_s (tau : dk_T) (s : Nat → Nat) (m : Nat) : Prop := m ≤ 12 ∧ ∀ i, i < m → s i < 12 ∧ ∃ t, tau (s i) = some t
theorem dk_PW {S : ty_S} {tau : dk_T} {s : Nat → Nat} {m : Nat} (hU : dk_U S tau) (hs : dk_s tau s m) : mo_PW (dk_P S tau s m) := by
  refine ⟨dk_wf hU, hs.1, fun i i0 i1 => ?_⟩
  have i1 : i < (m : Int) := i1
  obtain ⟨h1, t, ht⟩ := hs.2 i.toNat (by omega)
  have ok := (hU _ t ht).1
  obtain ⟨s1, s2, s3, s4, s5, s6, s7⟩ := dk_spec ok
  obtain ⟨⟨as, v6⟩, -⟩ := s7 (by omega)
  have hnb : dk_nb tau (s i.toNat : Int) = dk_nv t := by
    unfold dk_nb
    rw [show ((s i.toNat : Nat) : Int).toNat = s i.toNat by omega, ht]
  refine ⟨⟨?_, ?_, ?_⟩, ⟨?_, ?_, ?_⟩, ?_⟩
  · exact ⟨s i.toNat, t, 0, as, ht, v6, by show 48 * (s i.toNat : Int) = _; omega⟩
  · show 0 ≤ 48 * (s i.toNat : Int)
    omega
  · show 48 * (s i.toNat : Int) < 624
    omega
  · show dk_nb tau (s i.toNat) = dk_nb tau (48 * (s i.toNat : Int) / 48)
    rw [show 48 * (s i.toNat : Int) / 48 = s i.toNat by omega]
  · show 0 ≤ dk_nb tau (s i.toNat)
    rw [hnb]; exact (dk_nv_r ok).1
  · show dk_nb tau (s i.toNat) ≤ 24
    rw [hnb]; exact (dk_nv_r ok).2
  · show (dk_gs tau (s i.toNat)).length ≤ 24
    unfold dk_gs
    rw [ht]
    simp only [List.length_map]
    exact s6
theorem dk_goal {S : ty_S} {tau : dk_T} (hU : dk_U S tau) {x : Nat} {t : List Int} (ht : tau x = some t) {g : Int × Int × Int} (hg : g ∈ (dk_r x t).2.2.1.map (pt_abs x)) : g.1 = 33 ∨ ((g.1 = 40 ∨ g.1 = 61 ∨ g.1 = 126 ∨ g.1 = 60 ∨ g.1 = 63) ∧ (dk_v tau g.2.1 ∧ g.2.1 / 48 = x) ∧ dk_v tau g.2.2 ∧ g.2.2 / 48 = x) := by
  obtain ⟨g0, hg0, rfl⟩ := List.mem_map.mp hg
  have ok := (hU _ t ht).1
  obtain ⟨s1, s2, s3, s4, s5, s6, s7⟩ := dk_spec ok
  unfold pt_abs
  by_cases e : g0.1 = 33
  · rw [if_pos e]
    exact .inl rfl
  · rw [if_neg e]
    obtain ⟨z1, ⟨as, z2⟩, bs, z3⟩ := (s5 g0 hg0).resolve_left e
    have w2 := (s3 _ _ z2).1
    have w3 := (s3 _ _ z3).1
    have := ok.2.1
    exact .inr ⟨z1, ⟨⟨x, t, _, as, ht, z2, rfl⟩, by show (48 * (x : Int) + g0.2.1) / 48 = x; omega⟩, ⟨x, t, _, bs, ht, z3, rfl⟩, by show (48 * (x : Int) + g0.2.2) / 48 = x; omega⟩
theorem dk_PG {S : ty_S} {tau : dk_T} {s : Nat → Nat} {m : Nat} (hU : dk_U S tau) (hs : dk_s tau s m) : mo_PG (dk_P S tau s m) := by
  intro i i0 i1 g hg
  have i1 : i < (m : Int) := i1
  obtain ⟨h1, t, ht⟩ := hs.2 i.toNat (by omega)
  have hg : g ∈ dk_gs tau (s i.toNat) := hg
  unfold dk_gs at hg
  rw [ht] at hg
  have e : 48 * (s i.toNat : Int) / 48 = s i.toNat := by omega
  rcases dk_goal hU ht hg with z | ⟨z1, z2, z3⟩
  · exact .inl z
  · exact .inr ⟨z1, ⟨z2.1, by show g.2.1 / 48 = 48 * (s i.toNat : Int) / 48; rw [e]; exact z2.2⟩, z3.1, by show g.2.2 / 48 = 48 * (s i.toNat : Int) / 48; rw [e]; exact z3.2⟩
/-- the question's machine begins well -/
theorem dk_start {S : ty_S} {tau : dk_T} {s : Nat → Nat} {m : Nat} (hU : dk_U S tau) {q : List Int} (hq : tau 12 = some q) : mo_MI (dk_P S tau s m) (mo_start (dk_nv q) (dk_gs tau 12)) := by
  have ok := (hU _ q hq).1
  have hr := dk_nv_r ok
  have hnb : dk_nb tau 12 = dk_nv q := by
    unfold dk_nb
    rw [show ((12 : Int)).toNat = 12 from rfl, hq]
  refine ⟨⟨Int.le_refl _, by show (0 : Int) ≤ 500; decide⟩, ⟨by show dk_nv q ≤ 24 + 24 * 0; omega, Int.le_refl _, Int.le_refl _, Int.le_refl _⟩, ⟨hr.1, fun v _ _ => .inl rfl, ⟨fun v _ _ _ => ⟨fun c hc => (nomatch hc), List.nodup_nil, fun c hc => (nomatch hc)⟩, fun u v _ _ _ _ _ _ _ c hc => (nomatch hc), List.nodup_nil, fun c hc => (nomatch hc)⟩, Int.le_refl _, Int.le_refl _, fun e e0 e1 => ?_, fun i i0 i1 => ?_, fun g hg => ?_⟩, trivial⟩
  · have e1 : e < 0 := e1
    omega
  · have i1 : i < 0 := i1
    omega
  · obtain ⟨g0, hg0, rfl⟩ := List.mem_map.mp (show g ∈ (dk_gs tau 12).map _ from hg)
    unfold dk_gs at hg0
    rw [hq] at hg0
    have okn : ∀ n, dk_v tau n → n / 48 = ((12 : Nat) : Int) → mo_ok (dk_G S tau) (dk_nv q) (0 * 624 + n) := fun n hv hb => by
      have hr2 : 0 ≤ n ∧ n < 624 := (dk_wf hU n hv).1
      have e1 : (0 * 624 + n) % 624 = n := by omega
      refine ⟨by omega, by rw [e1]; exact hv, ?_⟩
      rw [e1]
      show (0 * 624 + n) / 624 + dk_nb tau (n / 48) ≤ dk_nv q
      rw [hb, show ((12 : Nat) : Int) = 12 from rfl, hnb]
      omega
    refine ⟨?_, Int.le_refl _, by show (0 : Int) ≤ 500; decide⟩
    rcases dk_goal hU hq hg0 with z | ⟨z1, z2, z3⟩
    · exact .inl z
    · exact .inr ⟨z1, okn _ z2.1 z2.2, okn _ z3.1 z3.2⟩
