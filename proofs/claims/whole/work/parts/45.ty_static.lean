/-! What stands fast once all is made: how many, how long, which reference. -/
def ty_cntL : List Nat := [3, 0, 0, 0, 0, 0, 0, 0, 0, 0, 1, 1, 1, 1, 12, 1, 1, 1, 1, 1, 1, 1, 1, 1, 1, 1, 1, 1, 1, 1, 1, 13, 13, 13, 13, 1, 1, 1, 1, 1, 1, 1, 1, 1, 1, 1, 1, 1, 0, 0, 0, 0, 0, 1, 1, 1, 1, 1, 1, 1, 1, 1, 1, 1, 1, 1, 1, 1, 1, 1, 1, 1, 1, 1, 1, 1, 1, 1, 1, 1, 1, 1, 1, 1, 1, 1, 1, 1, 1, 1, 1, 1, 1, 1, 1, 1]
def ty_lenL : List (Option Nat) := [none, none, none, none, none, none, none, none, none, none, some 48, some 12, none, none, none, none, none, none, none, some 624, some 624, some 1872, some 624, some 128, some 128, some 128, some 500, some 500, some 500, some 500, some 500, some 24, some 24, some 24, some 26, none, none, none, none, none, some 1003, some 1003, some 500, some 500, some 500, some 500, some 500, some 80, none, none, none, none, none, some 48, some 624, some 12, some 8, some 8, some 26, some 26, some 24000, some 24000, some 72000, some 13000, some 13000, some 13000, some 14000, some 14000, some 14000, some 14000, some 14000, some 6000, some 6000, some 1200, some 1200, some 600, some 600, some 600, some 2200, some 2200, some 600, some 1200, some 600, some 600, some 600, some 600, some 600, some 600, some 600, some 600, some 600, some 80, some 800, none, none, some 1]
def ty_refL : List (List (Option (Nat × Nat))) := [[], [], [], [], [], [], [], [], [], [], [], [], [some (19, 0), some (20, 0), some (21, 0), some (22, 0)], [some (12, 0), none, none, none, none, none, some (26, 0), none, some (27, 0), some (28, 0), none, some (29, 0), some (30, 0)], [none, some (31, 0), some (32, 0), some (33, 0), none, some (34, 0)], [none, some (31, 12), some (32, 12), some (33, 12), none, some (34, 12)], [some (12, 0)], [some (12, 0), some (13, 0), some (37, 0), some (38, 0), some (39, 0), none, none, some (35, 0), none, none, some (36, 0)], [some (12, 0), some (13, 0), some (47, 0)], [], [], [], [], [], [], [], [], [], [], [], [], [], [], [], [], [], [], [], [some (12, 0), some (13, 0), some (37, 0), some (40, 0), some (41, 0), none, some (42, 0)], [some (13, 0), some (38, 0), some (43, 0), some (44, 0), some (45, 0), none, some (46, 0)], [], [], [], [], [], [], [], [], [], [], [], [], [], [], [], [], [], [], [], [], [], [], [], [], [], [], [], [], [], [], [], [], [], [], [], [], [], [], [], [], [], [], [], [], [], [], [], [], [], [], [], [], [], [some (10, 0), none, none, some (11, 0), none, some (15, 0), none, some (16, 0), some (17, 0), some (18, 0)], [some (53, 0), some (54, 0), some (55, 0), some (56, 0), some (57, 0), some (58, 0), some (59, 0), none, none, none, none, none, none, none, some (60, 0), some (61, 0), some (62, 0), some (63, 0), some (64, 0), some (65, 0), some (66, 0), some (67, 0), some (68, 0), some (69, 0), some (70, 0), none, none, none, none, none, none, none, none, none, none, none, none, none, none, none, none, some (71, 0), some (72, 0), some (73, 0), some (74, 0), some (75, 0), some (76, 0), some (77, 0), some (78, 0), some (79, 0), some (80, 0), some (81, 0), some (82, 0), some (83, 0), some (84, 0), some (85, 0), some (86, 0), some (87, 0), some (88, 0), some (89, 0), some (90, 0), some (91, 0), some (92, 0)], []]
def ty_pres (s i : Nat) : Bool := Nat.blt i (ty_cntL.getD s 0)
def ty_len (s : Nat) : Option Nat := ty_lenL.getD s none
def ty_ref (s i k : Nat) : Option ai_A := match (ty_refL.getD s []).getD k none with
  | some (t, n) => some (t, i + n)
  | none => none
def ty_st (S : ty_S) : Prop := (∀ s i, ty_pres s i = true → i < S.2.2.2.2.2.2.1 s) ∧ (∀ s i n, ty_len s = some n → S.2.2.2.2.2.1 (s, i) = n) ∧ ∀ s i k b, ty_ref s i k = some b → S.2.1 (s, i) k = some b
section TYS
variable {S : ty_S} {L : Nat} {xs : Nat → Int32} {d mi pc : Nat} {ls : ai_L} {st : List ai_V} {Q : ai_O → ty_S → Prop} {a : ai_A}
theorem ty_getS {idx ci f : Nat} {b : ai_A} (row : gt_P.1 mi pc = some (3, .getfield idx, [ci, f])) (hs : ty_sk a.1 = (1, ci)) (hk : (ty_kd ci)[f]? = some true) (hp : a.2 < S.2.2.2.2.2.2.1 a.1) (hr : S.2.1 a f = some b) (k : ty_W L xs d mi (pc + 3) ls (.inr (.inr (some b)) :: st) S Q) : ty_W L xs d mi pc ls (.inr (.inr (some a)) :: st) S Q :=
  ty_getR row hs hk hp (fun v hv => by rw [← hv, hr]; exact k)
theorem ty_st.sI {k : Nat} {v : Int} (h : ty_st S) : ty_st (ty_sI S a k v) := h
theorem ty_st.sA {i v : Int} (h : ty_st S) : ty_st (ty_sA S a i v) := h
theorem ty_st.sQ {i : Int} {v : Option ai_A} (h : ty_st S) : ty_st (ty_sQ S a i v) := h
theorem ty_st.sR {k : Nat} {v : Option ai_A} (hk : ty_ref a.1 a.2 k = none) (h : ty_st S) : ty_st (ty_sR S a k v) := by
  refine ⟨h.1, h.2.1, fun s i j b hb => ?_⟩
  show (if (s, i) = a ∧ j = k then v else S.2.1 (s, i) j) = some b
  rw [if_neg ?_]
  · exact h.2.2 s i j b hb
  · rintro ⟨rfl, rfl⟩
    rw [hk] at hb
    cases hb
theorem ty_st.th (h : ty_st S) : ty_st (ty_th S) := h
theorem ty_st.nO {s n : Nat} (hs : ty_refL.getD s [] = []) (h : ty_st S) : ty_st (ty_nO S s n) := by
  refine ⟨fun t i hi => ?_, h.2.1, fun t i k b hb => ?_⟩
  · have := h.1 t i hi
    show i < (if t = s then S.2.2.2.2.2.2.1 s + 1 else S.2.2.2.2.2.2.1 t)
    split
    · rename_i e
      rw [e] at this
      omega
    · exact this
  · show (if (t, i) = (s, S.2.2.2.2.2.2.1 s) then none else S.2.1 (t, i) k) = some b
    rw [if_neg ?_]
    · exact h.2.2 t i k b hb
    · intro e
      cases e
      have e2 : ty_ref s (S.2.2.2.2.2.2.1 s) k = none := by
        unfold ty_ref
        rw [hs]
        rfl
      rw [e2] at hb
      cases hb
theorem ty_st.nA {s n : Nat} (hs : ty_len s = none) (h : ty_st S) : ty_st (ty_nA S s n) := by
  refine ⟨fun t i hi => ?_, fun t i m hm => ?_, h.2.2⟩
  · have := h.1 t i hi
    show i < (if t = s then S.2.2.2.2.2.2.1 s + 1 else S.2.2.2.2.2.2.1 t)
    split
    · rename_i e
      rw [e] at this
      omega
    · exact this
  · show (if (t, i) = (s, S.2.2.2.2.2.2.1 s) then n else S.2.2.2.2.2.1 (t, i)) = m
    rw [if_neg ?_]
    · exact h.2.1 t i m hm
    · intro e
      cases e
      rw [hs] at hm
      cases hm
theorem ty_st.ex (h : ty_st S) : ty_st (ty_ex S) := by
  refine ⟨fun t i hi => ?_, h.2.1, h.2.2⟩
  have := h.1 t i hi
  show i < (if t = 1 then S.2.2.2.2.2.2.1 1 + 1 else S.2.2.2.2.2.2.1 t)
  split
  · rename_i e
    rw [e] at this
    omega
  · exact this
end TYS
