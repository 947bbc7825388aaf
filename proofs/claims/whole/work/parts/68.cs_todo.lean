/-! The class's goals to do. -/
/-- a row of goals, each made before the one in front of it, all below u -/
def cs_td (S : ty_S) : Nat → Option ai_A → List mo_Go → Prop
  | _, p, [] => p = none
  | u, p, g :: gs => ∃ i, i < u ∧ p = some (49, i) ∧ (S.1 (49, i) 0 = g.1 ∧ S.1 (49, i) 1 = g.2.1 ∧ S.1 (49, i) 2 = g.2.2.1 ∧ S.1 (49, i) 3 = g.2.2.2) ∧ cs_td S i (S.2.1 (49, i) 4) gs
theorem cs_td_mono {S : ty_S} {u u' : Nat} {p : Option ai_A} {gs : List mo_Go} (h : cs_td S u p gs) (hu : u ≤ u') : cs_td S u' p gs := by
  cases gs with
  | nil => exact h
  | cons g gs =>
    obtain ⟨i, h1, h2⟩ := h
    exact ⟨i, by omega, h2⟩
theorem cs_td_eq {S S' : ty_S} : ∀ {gs : List mo_Go} {u : Nat} {p : Option ai_A}, (∀ i, i < u → ∀ j, S'.1 (49, i) j = S.1 (49, i) j ∧ S'.2.1 (49, i) j = S.2.1 (49, i) j) → cs_td S u p gs → cs_td S' u p gs
  | [], _, _, _, h => h
  | g :: gs, u, p, e, h => by
    obtain ⟨i, h1, h2, ⟨a1, a2, a3, a4⟩, h4⟩ := h
    refine ⟨i, h1, h2, ⟨by rw [(e i h1 _).1]; exact a1, by rw [(e i h1 _).1]; exact a2, by rw [(e i h1 _).1]; exact a3, by rw [(e i h1 _).1]; exact a4⟩, ?_⟩
    rw [(e i h1 _).2]
    exact cs_td_eq (fun q hq => e q (by omega)) h4
/-- the two lists: goals (n1 of them), choices (n2) -/
def cs_L (S : ty_S) (D1 : ai_A) (n1 c1 : Nat) (D2 : ai_A) (n2 c2 : Nat) : Prop := jd_al S (35, 0) 49 D1 n1 c1 ∧ jd_al S (36, 0) 52 D2 n2 c2 ∧ S.2.2.2.2.2.2.1 49 = n1 ∧ S.2.2.2.2.2.2.1 52 = n2 ∧ (D1 = D2 → D1 = (0, 1))
/-- what works on goals and choices leaves alone -/
def cs_f (S S' : ty_S) : Prop := (∀ b : ai_A, b.1 ≠ 17 → b.1 ≠ 35 → b.1 ≠ 36 → b.1 ≠ 49 → b.1 ≠ 52 → ∀ j, S'.1 b j = S.1 b j ∧ S'.2.1 b j = S.2.1 b j) ∧ (∀ b : ai_A, b.1 ≠ 50 → b.1 ≠ 51 → S'.2.2.1 b = S.2.2.1 b ∧ (b.1 ≠ 0 → S'.2.2.2.1 b = S.2.2.2.1 b) ∧ S'.2.2.2.2.2.1 b = S.2.2.2.2.2.1 b) ∧ S'.2.2.2.2.1 = S.2.2.2.2.1 ∧ ∀ s, s ≠ 49 → s ≠ 50 → s ≠ 51 → s ≠ 52 → S'.2.2.2.2.2.2.1 s = S.2.2.2.2.2.2.1 s
theorem cs_f.refl {S : ty_S} : cs_f S S := ⟨fun _ _ _ _ _ _ _ => ⟨rfl, rfl⟩, fun _ _ _ => ⟨rfl, fun _ => rfl, rfl⟩, rfl, fun _ _ _ _ _ => rfl⟩
theorem cs_f.trans {S S1 S2 : ty_S} (h : cs_f S S1) (g : cs_f S1 S2) : cs_f S S2 :=
  ⟨fun b a1 a2 a3 a4 a5 j => ⟨(g.1 b a1 a2 a3 a4 a5 j).1.trans (h.1 b a1 a2 a3 a4 a5 j).1, (g.1 b a1 a2 a3 a4 a5 j).2.trans (h.1 b a1 a2 a3 a4 a5 j).2⟩, fun b a1 a2 => ⟨(g.2.1 b a1 a2).1.trans (h.2.1 b a1 a2).1, fun z => ((g.2.1 b a1 a2).2.1 z).trans ((h.2.1 b a1 a2).2.1 z), (g.2.1 b a1 a2).2.2.trans (h.2.1 b a1 a2).2.2⟩, g.2.2.1.trans h.2.2.1, fun s a1 a2 a3 a4 => (g.2.2.2 s a1 a2 a3 a4).trans (h.2.2.2 s a1 a2 a3 a4)⟩
/-- cells and slots: K for what was made at first, th throws, n the variables' rows -/
def cs_k (S : ty_S) (K : Nat × Nat) (n1 c1 n2 c2 n th : Nat) : Prop := 3 * S.2.2.2.2.2.2.2.1 ≤ 3 * (K.1 + n1 + n2 + n + th) + c1 + c2 ∧ S.2.2.2.2.2.2.2.2 ≤ K.2 + 5 * n1 + 10 * n2 + 4 * c1 + 4 * c2 + 6 * n + 6 * th
theorem cs_k_add {S S' : ty_S} {K : Nat × Nat} {n1 c1 n2 c2 n th : Nat} {D D' : ai_A} {c' : Nat} (h : cs_k S K n1 c1 n2 c2 n th) (hj : jd_cost S S' D D' c1 c') (h10 : c' = 0 ∨ 10 ≤ c') : cs_k S' K n1 c' n2 c2 n th := by
  unfold cs_k at h ⊢
  rcases hj with ⟨-, z1, z2⟩ | ⟨-, z1, z2⟩
  · rw [z1, z2]; exact h
  · rw [z2]
    simp only
    omega
theorem cs_k_add2 {S S' : ty_S} {K : Nat × Nat} {n1 c1 n2 c2 n th : Nat} {D D' : ai_A} {c' : Nat} (h : cs_k S K n1 c1 n2 c2 n th) (hj : jd_cost S S' D D' c2 c') (h10 : c' = 0 ∨ 10 ≤ c') : cs_k S' K n1 c1 n2 c' n th := by
  unfold cs_k at h ⊢
  rcases hj with ⟨-, z1, z2⟩ | ⟨-, z1, z2⟩
  · rw [z1, z2]; exact h
  · rw [z2]
    simp only
    omega
section CST
variable {L : Nat} {xs : Nat → Int32} {S : ty_S} {D1 D2 : ai_A} {n1 c1 n2 c2 : Nat}
theorem jd_al_keep {S' : ty_S} {a D : ai_A} {s n c : Nat} (h : jd_al S a s D n c) (h1 : S'.1 a 1 = S.1 a 1) (h2 : S'.2.1 a 0 = S.2.1 a 0) (hD : D ≠ (0, 1) → S'.2.2.2.1 D = S.2.2.2.1 D ∧ S'.2.2.2.2.2.1 D = S.2.2.2.2.2.1 D) (hc : ∀ s, S.2.2.2.2.2.2.1 s ≤ S'.2.2.2.2.2.2.1 s) : jd_al S' a s D n c := by
  obtain ⟨a1, a2, a3, a4, a5, a6⟩ := h
  refine ⟨by rw [h1]; exact a1, by rw [h2]; exact a2, a3, a4, a5, ?_⟩
  rcases a6 with z | ⟨z1, z2, z3, z4, z5⟩
  · exact .inl z
  · have hne : D ≠ (0, 1) := fun e => by rw [e] at z1; simp at z1
    obtain ⟨q1, q2⟩ := hD hne
    exact .inr ⟨z1, Nat.lt_of_lt_of_le z2 (hc _), by rw [q2]; exact z3, z4, fun i hi => by rw [q1]; exact z5 i hi⟩
theorem ct_ToDo_init (d : Nat) {a : ai_A} : ty_C L xs (d + 1) 47 [.inr (.inr (some a))] S (ty_oV fun S' => S' = S) := by
  refine ty_enter (ml := 1) (ls := [_]) rfl rfl (Nat.le_of_ble_eq_true rfl) ?_
  refine ty_aload_n (pc := 0) (i := 0) (ks := []) (by decide +kernel) rfl ?_
  refine ty_objinit (pc := 1) (ins := .invokespecial 1) (ks := []) (by decide +kernel) (Nat.le_of_ble_eq_true rfl) ?_
  refine ty_ret_v (pc := 4) (ks := []) (by decide +kernel) rfl ?_
  exact ⟨rfl, rfl⟩
theorem ct_Choice_init (d : Nat) {a : ai_A} : ty_C L xs (d + 1) 69 [.inr (.inr (some a))] S (ty_oV fun S' => S' = S) := by
  refine ty_enter (ml := 1) (ls := [_]) rfl rfl (Nat.le_of_ble_eq_true rfl) ?_
  refine ty_aload_n (pc := 0) (i := 0) (ks := []) (by decide +kernel) rfl ?_
  refine ty_objinit (pc := 1) (ins := .invokespecial 1) (ks := []) (by decide +kernel) (Nat.le_of_ble_eq_true rfl) ?_
  refine ty_ret_v (pc := 4) (ks := []) (by decide +kernel) rfl ?_
  exact ⟨rfl, rfl⟩
end CST
