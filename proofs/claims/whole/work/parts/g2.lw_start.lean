/-! The state once all is made. -/
def fin_I : List (ai_A × Option Nat × Int) := [((94, 0), some 9, (-1)), ((94, 0), none, 0), ((18, 0), some 3, 0), ((18, 0), none, 0), ((39, 0), some 7, 0), ((39, 0), some 5, 0), ((39, 0), none, 0), ((38, 0), some 7, 0), ((38, 0), some 5, 0), ((38, 0), none, 0), ((37, 0), some 0, 0), ((37, 0), none, 0), ((17, 0), some 15, 0), ((17, 0), some 14, 0), ((17, 0), some 12, 0), ((17, 0), some 11, 0), ((36, 0), some 2, 0), ((36, 0), none, 0), ((17, 0), some 8, 0), ((35, 0), some 2, 0), ((35, 0), none, 0), ((17, 0), some 6, 0), ((17, 0), none, 0), ((16, 0), some 3, 0), ((16, 0), some 2, 0), ((16, 0), none, 0), ((15, 0), some 0, 576), ((15, 0), some 6, 0), ((15, 0), some 4, 0), ((15, 0), none, 0), ((14, 11), some 0, 528), ((14, 11), some 6, 0), ((14, 11), some 4, 0), ((14, 11), none, 0), ((14, 10), some 0, 480), ((14, 10), some 6, 0), ((14, 10), some 4, 0), ((14, 10), none, 0), ((14, 9), some 0, 432), ((14, 9), some 6, 0), ((14, 9), some 4, 0), ((14, 9), none, 0), ((14, 8), some 0, 384), ((14, 8), some 6, 0), ((14, 8), some 4, 0), ((14, 8), none, 0), ((14, 7), some 0, 336), ((14, 7), some 6, 0), ((14, 7), some 4, 0), ((14, 7), none, 0), ((14, 6), some 0, 288), ((14, 6), some 6, 0), ((14, 6), some 4, 0), ((14, 6), none, 0), ((14, 5), some 0, 240), ((14, 5), some 6, 0), ((14, 5), some 4, 0), ((14, 5), none, 0), ((14, 4), some 0, 192), ((14, 4), some 6, 0), ((14, 4), some 4, 0), ((14, 4), none, 0), ((14, 3), some 0, 144), ((14, 3), some 6, 0), ((14, 3), some 4, 0), ((14, 3), none, 0), ((14, 2), some 0, 96), ((14, 2), some 6, 0), ((14, 2), some 4, 0), ((14, 2), none, 0), ((14, 1), some 0, 48), ((14, 1), some 6, 0), ((14, 1), some 4, 0), ((14, 1), none, 0), ((14, 0), some 0, 0), ((14, 0), some 6, 0), ((14, 0), some 4, 0), ((14, 0), none, 0), ((13, 0), some 13, 0), ((13, 0), some 10, 0), ((13, 0), some 7, 0), ((13, 0), some 5, 0), ((13, 0), some 4, 0), ((13, 0), none, 0), ((12, 0), none, 0), ((93, 0), some 6, 0), ((93, 0), some 4, 0), ((93, 0), some 2, (-1)), ((93, 0), some 1, 0), ((93, 0), none, 0)]
def fin_R : List (ai_A × Option Nat × Option ai_A) := [((94, 0), some 62, some (92, 0)), ((94, 0), some 61, some (91, 0)), ((94, 0), some 60, some (90, 0)), ((94, 0), some 59, some (89, 0)), ((94, 0), some 58, some (88, 0)), ((94, 0), some 57, some (87, 0)), ((94, 0), some 56, some (86, 0)), ((94, 0), some 55, some (85, 0)), ((94, 0), some 54, some (84, 0)), ((94, 0), some 53, some (83, 0)), ((94, 0), some 52, some (82, 0)), ((94, 0), some 51, some (81, 0)), ((94, 0), some 50, some (80, 0)), ((94, 0), some 49, some (79, 0)), ((94, 0), some 48, some (78, 0)), ((94, 0), some 47, some (77, 0)), ((94, 0), some 46, some (76, 0)), ((94, 0), some 45, some (75, 0)), ((94, 0), some 44, some (74, 0)), ((94, 0), some 43, some (73, 0)), ((94, 0), some 42, some (72, 0)), ((94, 0), some 41, some (71, 0)), ((94, 0), some 24, some (70, 0)), ((94, 0), some 23, some (69, 0)), ((94, 0), some 22, some (68, 0)), ((94, 0), some 21, some (67, 0)), ((94, 0), some 20, some (66, 0)), ((94, 0), some 19, some (65, 0)), ((94, 0), some 18, some (64, 0)), ((94, 0), some 17, some (63, 0)), ((94, 0), some 16, some (62, 0)), ((94, 0), some 15, some (61, 0)), ((94, 0), some 14, some (60, 0)), ((94, 0), some 6, some (59, 0)), ((94, 0), some 5, some (58, 0)), ((94, 0), some 4, some (57, 0)), ((94, 0), some 3, some (56, 0)), ((94, 0), some 2, some (55, 0)), ((94, 0), some 1, some (54, 0)), ((94, 0), some 0, some (53, 0)), ((94, 0), none, none), ((93, 0), some 9, some (18, 0)), ((18, 0), some 1, some (13, 0)), ((18, 0), some 0, some (12, 0)), ((18, 0), some 2, some (47, 0)), ((18, 0), none, none), ((93, 0), some 8, some (17, 0)), ((17, 0), some 4, some (39, 0)), ((39, 0), some 1, some (38, 0)), ((39, 0), some 0, some (13, 0)), ((39, 0), some 6, some (46, 0)), ((39, 0), some 4, some (45, 0)), ((39, 0), some 3, some (44, 0)), ((39, 0), some 2, some (43, 0)), ((39, 0), none, none), ((17, 0), some 3, some (38, 0)), ((17, 0), some 2, some (37, 0)), ((17, 0), some 1, some (13, 0)), ((17, 0), some 0, some (12, 0)), ((38, 0), some 2, some (37, 0)), ((38, 0), some 1, some (13, 0)), ((38, 0), some 0, some (12, 0)), ((38, 0), some 6, some (42, 0)), ((38, 0), some 4, some (41, 0)), ((38, 0), some 3, some (40, 0)), ((38, 0), none, none), ((37, 0), none, none), ((17, 0), some 10, some (36, 0)), ((36, 0), some 0, some (0, 1)), ((36, 0), none, none), ((17, 0), some 7, some (35, 0)), ((35, 0), some 0, some (0, 1)), ((35, 0), none, none), ((17, 0), none, none), ((93, 0), some 7, some (16, 0)), ((16, 0), some 0, some (12, 0)), ((16, 0), none, none), ((93, 0), some 5, some (15, 0)), ((15, 0), some 5, some (34, 12)), ((15, 0), some 3, some (33, 12)), ((15, 0), some 2, some (32, 12)), ((15, 0), some 1, some (31, 12)), ((15, 0), none, none), ((14, 11), some 5, some (34, 11)), ((14, 11), some 3, some (33, 11)), ((14, 11), some 2, some (32, 11)), ((14, 11), some 1, some (31, 11)), ((14, 11), none, none), ((14, 10), some 5, some (34, 10)), ((14, 10), some 3, some (33, 10)), ((14, 10), some 2, some (32, 10)), ((14, 10), some 1, some (31, 10)), ((14, 10), none, none), ((14, 9), some 5, some (34, 9)), ((14, 9), some 3, some (33, 9)), ((14, 9), some 2, some (32, 9)), ((14, 9), some 1, some (31, 9)), ((14, 9), none, none), ((14, 8), some 5, some (34, 8)), ((14, 8), some 3, some (33, 8)), ((14, 8), some 2, some (32, 8)), ((14, 8), some 1, some (31, 8)), ((14, 8), none, none), ((14, 7), some 5, some (34, 7)), ((14, 7), some 3, some (33, 7)), ((14, 7), some 2, some (32, 7)), ((14, 7), some 1, some (31, 7)), ((14, 7), none, none), ((14, 6), some 5, some (34, 6)), ((14, 6), some 3, some (33, 6)), ((14, 6), some 2, some (32, 6)), ((14, 6), some 1, some (31, 6)), ((14, 6), none, none), ((14, 5), some 5, some (34, 5)), ((14, 5), some 3, some (33, 5)), ((14, 5), some 2, some (32, 5)), ((14, 5), some 1, some (31, 5)), ((14, 5), none, none), ((14, 4), some 5, some (34, 4)), ((14, 4), some 3, some (33, 4)), ((14, 4), some 2, some (32, 4)), ((14, 4), some 1, some (31, 4)), ((14, 4), none, none), ((14, 3), some 5, some (34, 3)), ((14, 3), some 3, some (33, 3)), ((14, 3), some 2, some (32, 3)), ((14, 3), some 1, some (31, 3)), ((14, 3), none, none), ((14, 2), some 5, some (34, 2)), ((14, 2), some 3, some (33, 2)), ((14, 2), some 2, some (32, 2)), ((14, 2), some 1, some (31, 2)), ((14, 2), none, none), ((14, 1), some 5, some (34, 1)), ((14, 1), some 3, some (33, 1)), ((14, 1), some 2, some (32, 1)), ((14, 1), some 1, some (31, 1)), ((14, 1), none, none), ((14, 0), some 5, some (34, 0)), ((14, 0), some 3, some (33, 0)), ((14, 0), some 2, some (32, 0)), ((14, 0), some 1, some (31, 0)), ((14, 0), none, none), ((13, 0), some 0, some (12, 0)), ((13, 0), some 12, some (30, 0)), ((13, 0), some 11, some (29, 0)), ((13, 0), some 9, some (28, 0)), ((13, 0), some 8, some (27, 0)), ((13, 0), some 6, some (26, 0)), ((13, 0), some 3, some (25, 0)), ((13, 0), some 2, some (24, 0)), ((13, 0), some 1, some (23, 0)), ((13, 0), none, none), ((12, 0), some 3, some (22, 0)), ((12, 0), some 2, some (21, 0)), ((12, 0), some 1, some (20, 0)), ((12, 0), some 0, some (19, 0)), ((12, 0), none, none), ((93, 0), some 3, some (11, 0)), ((93, 0), some 0, some (10, 0)), ((93, 0), none, none)]
def fin_Q : List (Int × Option ai_A) := [(11, some (14, 11)), (10, some (14, 10)), (9, some (14, 9)), (8, some (14, 8)), (7, some (14, 7)), (6, some (14, 6)), (5, some (14, 5)), (4, some (14, 4)), (3, some (14, 3)), (2, some (14, 2)), (1, some (14, 1)), (0, some (14, 0))]
def fin_M : List Nat := [95, 92, 91, 90, 89, 88, 87, 86, 85, 84, 83, 82, 81, 80, 79, 78, 77, 76, 75, 74, 73, 72, 71, 70, 69, 68, 67, 66, 65, 64, 63, 62, 61, 60, 59, 58, 57, 56, 55, 54, 53, 94, 47, 18, 46, 45, 44, 43, 39, 42, 41, 40, 38, 37, 36, 35, 17, 16, 34, 33, 32, 31, 15, 34, 33, 32, 31, 14, 34, 33, 32, 31, 14, 34, 33, 32, 31, 14, 34, 33, 32, 31, 14, 34, 33, 32, 31, 14, 34, 33, 32, 31, 14, 34, 33, 32, 31, 14, 34, 33, 32, 31, 14, 34, 33, 32, 31, 14, 34, 33, 32, 31, 14, 34, 33, 32, 31, 14, 34, 33, 32, 31, 14, 30, 29, 28, 27, 26, 25, 24, 23, 13, 22, 21, 20, 19, 12, 11, 10, 93]
def fin_O : List ai_A := [(94, 0), (93, 0), (18, 0), (17, 0), (39, 0), (38, 0), (37, 0), (36, 0), (35, 0), (16, 0), (15, 0), (14, 11), (14, 10), (14, 9), (14, 8), (14, 7), (14, 6), (14, 5), (14, 4), (14, 3), (14, 2), (14, 1), (14, 0), (13, 0), (12, 0)]
def fin_w : Nat := 0 + 10 + 48 + 12 + 4 + 624 + 624 + 1872 + 624 + 14 + 128 + 128 + 128 + 500 + 500 + 500 + 500 + 500 + 7 + 24 + 24 + 24 + 26 + 7 + 24 + 24 + 24 + 26 + 7 + 24 + 24 + 24 + 26 + 7 + 24 + 24 + 24 + 26 + 7 + 24 + 24 + 24 + 26 + 7 + 24 + 24 + 24 + 26 + 7 + 24 + 24 + 24 + 26 + 7 + 24 + 24 + 24 + 26 + 7 + 24 + 24 + 24 + 26 + 7 + 24 + 24 + 24 + 26 + 7 + 24 + 24 + 24 + 26 + 7 + 24 + 24 + 24 + 26 + 7 + 24 + 24 + 24 + 26 + 5 + 16 + 3 + 3 + 1 + 8 + 1003 + 1003 + 500 + 8 + 500 + 500 + 500 + 500 + 4 + 80 + 64 + 48 + 624 + 12 + 8 + 8 + 26 + 26 + 24000 + 24000 + 72000 + 13000 + 13000 + 13000 + 14000 + 14000 + 14000 + 14000 + 14000 + 6000 + 6000 + 1200 + 1200 + 600 + 600 + 600 + 2200 + 2200 + 600 + 1200 + 600 + 600 + 600 + 600 + 600 + 600 + 600 + 600 + 600 + 80 + 800 + 1
def fin_S : ty_S := tk fin_I fin_R fin_Q fin_M fin_w
theorem tk_R_g {b : ai_A} {k : Nat} : ∀ (l : List (ai_A × Option Nat × Option ai_A)), (∀ e ∈ l, b ≠ e.1) → tk_R l b k = ty_ref b.1 b.2 k
  | [], _ => rfl
  | (a, none, v) :: l, h => by
    show (if b = a then none else tk_R l b k) = _
    rw [if_neg (h _ List.mem_cons_self)]
    exact tk_R_g l (fun e he => h e (List.mem_cons_of_mem _ he))
  | (a, some q, v) :: l, h => by
    show (if b = a ∧ k = q then v else tk_R l b k) = _
    rw [if_neg (fun z => h _ List.mem_cons_self z.1)]
    exact tk_R_g l (fun e he => h e (List.mem_cons_of_mem _ he))
theorem fin_cnt (s : Nat) : ty_cntL.getD s 0 ≤ tk_M fin_M s := by
  by_cases h : s < 96
  · have := List.all_eq_true.mp (show (List.range 96).all (fun s => Nat.ble (ty_cntL.getD s 0) (tk_M fin_M s)) = true by decide +kernel) s (List.mem_range.mpr h)
    exact Nat.le_of_ble_eq_true this
  · have hl : ty_cntL.length = 96 := by decide +kernel
    rw [List.getD_eq_getElem?_getD, List.getElem?_eq_none (by omega)]
    exact Nat.zero_le _
theorem fin_refs {s i k : Nat} {b : ai_A} (h : ty_ref s i k = some b) : tk_R fin_R (s, i) k = some b := by
  by_cases e : fin_O.contains (s, i) = true
  · have hk : k < 64 := by
      by_cases hk : k < 64
      · exact hk
      · exfalso
        have hr : (ty_refL.getD s []).length ≤ 64 := by
          by_cases hs : s < ty_refL.length
          · have := List.all_eq_true.mp (show ty_refL.all (fun r => Nat.ble r.length 64) = true by decide +kernel) _ (List.getElem_mem hs)
            rw [List.getD_eq_getElem?_getD, List.getElem?_eq_getElem hs]
            exact Nat.le_of_ble_eq_true this
          · rw [List.getD_eq_getElem?_getD, List.getElem?_eq_none (by omega)]
            exact Nat.zero_le _
        unfold ty_ref at h
        rw [List.getD_eq_getElem?_getD (l := ty_refL.getD s []), List.getElem?_eq_none (by omega)] at h
        cases h
    have h1 := List.all_eq_true.mp (show fin_O.all (fun a => (List.range 64).all (fun k => match ty_ref a.1 a.2 k with
      | some b => decide (tk_R fin_R a k = some b)
      | none => true)) = true by decide +kernel) (s, i) (List.contains_iff_mem.mp e)
    have h2 := List.all_eq_true.mp h1 k (List.mem_range.mpr hk)
    simp only [h] at h2
    exact of_decide_eq_true h2
  · rw [tk_R_g fin_R (fun a ha z => e ?_)]
    · exact h
    · have := List.all_eq_true.mp (show fin_R.all (fun e => fin_O.contains e.1) = true by decide +kernel) a ha
      rw [z]
      exact this
theorem fin_st : ty_st fin_S := by
  refine ⟨fun s i h => ?_, fun s i n h => ?_, fun s i k b h => fin_refs h⟩
  · have h1 := fin_cnt s
    have h2 := Nat.le_of_ble_eq_true (show Nat.ble (i + 1) (ty_cntL.getD s 0) = true from h)
    show i < tk_M fin_M s
    omega
  · show (ty_len s).getD 0 = n
    rw [h]
    rfl
theorem fin_dk : dk_R fin_S (fin_S.2.2.2.2.2.2.2.1, fin_S.2.2.2.2.2.2.2.2) 0 (fun _ => none) id [] (-1) 0 none := by
  refine ⟨fin_st, fun x t ht => (nomatch ht), ⟨⟨by decide, fun i hi => by omega⟩, fun i hi => hi, fun i j _ _ h => h, fun _ _ _ => rfl, fun i hi => ?_, by decide +kernel, fun x hx => ?_, by decide +kernel⟩, ⟨by decide +kernel, by decide, fun c hc => (nomatch hc), trivial, fun _ _ _ => ⟨show (0 : Int) ≤ 0 by decide, show (0 : Int) ≤ 65535 by decide⟩⟩, ⟨by decide +kernel, by decide, by decide⟩, by decide +kernel, rfl, ?_⟩
  · have := List.all_eq_true.mp (show (List.range 12).all (fun i => decide (tk_Q fin_Q (11, 0) (i : Int) = some (14, i))) = true by decide +kernel) i (List.mem_range.mpr hi)
    exact of_decide_eq_true this
  · have := List.all_eq_true.mp (show (List.range 12).all (fun x => decide (tk_I fin_I (14, x) 0 = 48 * (x : Int))) = true by decide +kernel) x (List.mem_range.mpr hx)
    exact of_decide_eq_true this
  · refine ⟨(23, 0), (24, 0), (25, 0), 128, (0, 1), 0, 0, (0, 1), 0, 0, fin_st, ⟨⟨by decide +kernel, by decide +kernel, by decide +kernel⟩, ⟨by decide +kernel, by decide +kernel, by decide +kernel⟩, ⟨by decide +kernel, by decide +kernel, by decide +kernel⟩, ⟨by decide +kernel, by decide +kernel, by decide +kernel⟩, ⟨by decide, by decide, by decide⟩, ⟨.inl rfl, .inl rfl, .inl rfl⟩, by decide⟩, ⟨⟨by decide +kernel, by decide +kernel, by decide, by decide, by decide, .inl ⟨rfl, rfl, rfl⟩⟩, ⟨by decide +kernel, by decide +kernel, by decide, by decide, by decide, .inl ⟨rfl, rfl, rfl⟩⟩, by decide +kernel, by decide +kernel, fun _ => rfl⟩, by decide, by decide, ?_, by decide, by decide⟩
    unfold cs_k
    simp only
    omega
theorem fin_rm : rm_R fin_S (lw_I fin_S) (lw_M fin_S) (fun _ => none) id [] (-1) 0 none := by
  refine ⟨⟨by decide +kernel, by decide, fun c hc => (nomatch hc), trivial⟩, by decide +kernel, ⟨⟨by decide +kernel, by decide⟩, fun i hi => by omega⟩, ⟨⟨by decide +kernel, by decide +kernel, by decide +kernel⟩, by decide +kernel, by decide +kernel⟩, by decide +kernel, trivial⟩
theorem fin_lw : lw_R fin_S (fin_S.2.2.2.2.2.2.2.1, fin_S.2.2.2.2.2.2.2.2) 0 := ⟨_, _, _, _, _, _, fin_dk, fin_rm⟩
section LWI
variable {L : Nat} {xs : Nat → Int32}
theorem lw_init (d : Nat) (hL : L ≤ 1536) : ty_W L xs (d + 50) 150 0 [some (.inr (.inr (some (0, 0)))), none, none, none, none, none, none] [] (tk [] [] [] [] 0) (lw_end L (fin_S.2.2.2.2.2.2.2.1, fin_S.2.2.2.2.2.2.2.2)) := by
  refine tk_newO (pc := 0) (idx := 8) (ci := 0) (s := 93) (i := 0) (by decide +kernel) (by decide +kernel) (by decide +kernel) (by decide) ?_
  rw [show (ty_kd 0).length = 10 from rfl]
  refine ty_dup (pc := 3) (ks := []) (by decide +kernel) rfl ?_
  -- at 4: .invokespecial 43
  refine ty_callp (pc := 4) (idx := 43) (m := 0) (n := 1) (c := 0) (vs := []) (r := [_]) (by decide +kernel) rfl rfl (Nat.le_of_ble_eq_true rfl) ((tc_Desk d).deeper (by omega)) ?_
  rintro _ _ ⟨rfl, rfl⟩
  refine ty_KV ?_
  refine ty_astore_n (pc := 7) (i := 1) (ks := []) (ls' := [_, _, _, _, _, _, _]) (by decide +kernel) rfl ?_
  -- at 8: .new 44
  refine tk_newO (pc := 8) (idx := 44) (ci := 13) (s := 94) (i := 0) (by decide +kernel) (by decide +kernel) (by decide +kernel) (by decide) ?_
  rw [show (ty_kd 13).length = 64 from rfl]
  refine ty_dup (pc := 11) (ks := []) (by decide +kernel) rfl ?_
  -- at 12: .invokespecial 46
  refine ty_callp (pc := 12) (idx := 46) (m := 102) (n := 1) (c := 0) (vs := []) (r := [_]) (by decide +kernel) rfl rfl (Nat.le_of_ble_eq_true rfl) ((tc_Model d (by decide) (by decide) (by decide) (by decide) (by decide) (by decide) (by decide) (by decide) (by decide) (by decide) (by decide) (by decide) (by decide) (by decide) (by decide) (by decide) (by decide) (by decide) (by decide) (by decide) (by decide) (by decide) (by decide) (by decide) (by decide) (by decide) (by decide) (by decide) (by decide) (by decide) (by decide) (by decide) (by decide) (by decide) (by decide) (by decide) (by decide) (by decide) (by decide) (by decide) (by decide)).deeper (by omega)) ?_
  rintro _ _ ⟨rfl, rfl⟩
  refine ty_KV ?_
  refine ty_astore_n (pc := 15) (i := 2) (ks := []) (ls' := [_, _, _, _, _, _, _]) (by decide +kernel) rfl ?_
  refine ty_iconst (pc := 16) (n := 1) (ks := []) (by decide +kernel) ?_
  -- at 17: .newarray .long
  refine ty_newL (pc := 17) (t := 3) (s := 95) (by decide +kernel) (by decide +kernel) (by decide) (by omega) rfl ?_
  rw [show (1 : Int).toNat = 1 from rfl, tk_nA (i := 0) (by decide) (tk_Q_ne (by simp)) (by decide)]
  refine ty_astore_n (pc := 19) (i := 3) (ks := []) (ls' := [_, _, _, _, _, _, _]) (by decide +kernel) rfl ?_
  refine ty_iconst (pc := 20) (n := 0) (ks := []) (by decide +kernel) ?_
  refine ty_istore (pc := 21) (i := 4) (ks := []) (ls' := [_, _, _, _, _, _, _]) (by decide +kernel) rfl ?_
  -- at 23: .iload 4
  exact lw_loop d (by omega) 512 fin_S 0 0 none none (by omega) (Int.le_refl _) (by omega) (by omega) (Nat.zero_le _) fin_lw (by decide +kernel)
end LWI
