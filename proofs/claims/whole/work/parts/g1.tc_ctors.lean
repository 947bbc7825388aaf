/-! The constructors. -/
section TCC
variable {L : Nat} {xs : Nat → Int32} {lI : List (ai_A × Option Nat × Int)} {lR : List (ai_A × Option Nat × Option ai_A)} {lQ : List (Int × Option ai_A)} {lm : List Nat} {w : Nat}
theorem tc_AbstractCollection (d : Nat) {a : ai_A} (hk : ty_sk a.1 = (1, 6)) (hp : a.2 < tk_M lm a.1) :
    ty_C L xs (d + 1) 8 [.inr (.inr (some a))] (tk (lI) (lR) (lQ) (lm) (w)) (ty_oV fun S' => S' = tk (lI) (lR) (lQ) (lm) (w)) := by
  refine ty_enter (ml := 1) (ls := [_]) rfl rfl (Nat.le_of_ble_eq_true rfl) ?_
  refine ty_aload_n (pc := 0) (i := 0) (ks := []) (by decide +kernel) rfl ?_
  refine ty_objinit (pc := 1) (ins := .invokespecial 1) (ks := []) (by decide +kernel) (Nat.le_of_ble_eq_true rfl) ?_
  refine ty_ret_v (pc := 4) (ks := []) (by decide +kernel) rfl ?_
  exact ⟨rfl, rfl⟩
theorem tc_AbstractList (d : Nat) {a : ai_A} (hk : ty_sk a.1 = (1, 6)) (hp : a.2 < tk_M lm a.1) :
    ty_C L xs (d + 2) 7 [.inr (.inr (some a))] (tk (lI) (lR) (lQ) (lm) (w)) (ty_oV fun S' => S' = tk ((a, some 2, 0) :: lI) (lR) (lQ) (lm) (w)) := by
  refine ty_enter (ml := 1) (ls := [_]) rfl rfl (Nat.le_of_ble_eq_true rfl) ?_
  refine ty_aload_n (pc := 0) (i := 0) (ks := []) (by decide +kernel) rfl ?_
  refine ty_callp (pc := 1) (idx := 1) (m := 8) (n := 1) (c := 0) (vs := []) (r := []) (by decide +kernel) rfl rfl (Nat.le_of_ble_eq_true rfl) ((tc_AbstractCollection d (a := a) hk hp).deeper (by omega)) ?_
  rintro _ _ ⟨rfl, rfl⟩
  refine ty_KV ?_
  refine ty_aload_n (pc := 4) (i := 0) (ks := []) (by decide +kernel) rfl ?_
  refine ty_iconst (pc := 5) (n := 0) (ks := []) (by decide +kernel) ?_
  refine ty_putI (pc := 6) (idx := 7) (ci := 6) (f := 2) (by decide +kernel) hk rfl rfl hp ?_
  rw [tk_sI]
  refine ty_ret_v (pc := 9) (ks := []) (by decide +kernel) rfl ?_
  exact ⟨rfl, rfl⟩
theorem tc_ArrayList (d : Nat) {a : ai_A} (hk : ty_sk a.1 = (1, 6)) (hp : a.2 < tk_M lm a.1) :
    ty_C L xs (d + 3) 6 [.inr (.inr (some a))] (tk (lI) (lR) (lQ) (lm) (w)) (ty_oV fun S' => S' = tk ((a, some 2, 0) :: lI) ((a, some 0, some (0, 1)) :: lR) (lQ) (lm) (w)) := by
  refine ty_enter (ml := 1) (ls := [_]) rfl rfl (Nat.le_of_ble_eq_true rfl) ?_
  refine ty_aload_n (pc := 0) (i := 0) (ks := []) (by decide +kernel) rfl ?_
  refine ty_callp (pc := 1) (idx := 1) (m := 7) (n := 1) (c := 0) (vs := []) (r := []) (by decide +kernel) rfl rfl (Nat.le_of_ble_eq_true rfl) ((tc_AbstractList d (a := a) hk hp).deeper (by omega)) ?_
  rintro _ _ ⟨rfl, rfl⟩
  refine ty_KV ?_
  refine ty_aload_n (pc := 4) (i := 0) (ks := []) (by decide +kernel) rfl ?_
  refine ty_empty (pc := 5) (ins := .getstatic 39) (by decide +kernel) tk_0 ?_
  refine ty_putR (pc := 8) (idx := 9) (ci := 6) (f := 0) (by decide +kernel) hk rfl rfl hp ?_
  rw [tk_sR]
  refine ty_ret_v (pc := 11) (ks := []) (by decide +kernel) rfl ?_
  exact ⟨rfl, rfl⟩
theorem tc_Clause (d : Nat) {a : ai_A} {j : Nat} {st : Int} (hk : ty_sk a.1 = (1, 3)) (hp : a.2 < tk_M lm a.1) (hm31 : tk_M lm 31 = j) (hm32 : tk_M lm 32 = j) (hm33 : tk_M lm 33 = j) (hm34 : tk_M lm 34 = j) :
    ty_C L xs (d + 1) 3 [.inr (.inr (some a)), .inl (ty_J st)] (tk (lI) (lR) (lQ) (lm) (w)) (ty_oV fun S' => S' = tk ((a, some 0, st) :: (a, some 6, 0) :: (a, some 4, 0) :: lI) ((a, some 5, some (34, j)) :: (a, some 3, some (33, j)) :: (a, some 2, some (32, j)) :: (a, some 1, some (31, j)) :: lR) (lQ) (34 :: 33 :: 32 :: 31 :: lm) (w + 24 + 24 + 24 + 26)) := by
  refine ty_enter (ml := 2) (ls := [_, _]) rfl rfl (Nat.le_of_ble_eq_true rfl) ?_
  refine ty_aload_n (pc := 0) (i := 0) (ks := []) (by decide +kernel) rfl ?_
  refine ty_objinit (pc := 1) (ins := .invokespecial 3) (ks := []) (by decide +kernel) (Nat.le_of_ble_eq_true rfl) ?_
  refine ty_aload_n (pc := 4) (i := 0) (ks := []) (by decide +kernel) rfl ?_
  refine ty_bipush (pc := 5) (n := 24) (ks := []) (by decide +kernel) (by omega) ?_
  refine tk_newA (pc := 7) (at_ := .char) (t := 1) (s := 31) (i := j) (n := 24) (by decide +kernel) (by decide +kernel) (by decide) (by omega) hm31 (by simp) (by decide) ?_
  rw [show (24 : Int).toNat = 24 from rfl]
  refine ty_putR (pc := 9) (idx := 9) (ci := 3) (f := 1) (by decide +kernel) hk rfl rfl (tk_p hp) ?_
  rw [tk_sR]
  refine ty_aload_n (pc := 12) (i := 0) (ks := []) (by decide +kernel) rfl ?_
  refine ty_bipush (pc := 13) (n := 24) (ks := []) (by decide +kernel) (by omega) ?_
  refine tk_newA (pc := 15) (at_ := .int) (t := 0) (s := 32) (i := j) (n := 24) (by decide +kernel) (by decide +kernel) (by decide) (by omega) ((tk_M_ne (by decide)).trans hm32) (by simp) (by decide) ?_
  rw [show (24 : Int).toNat = 24 from rfl]
  refine ty_putR (pc := 17) (idx := 15) (ci := 3) (f := 2) (by decide +kernel) hk rfl rfl (tk_p (tk_p hp)) ?_
  rw [tk_sR]
  refine ty_aload_n (pc := 20) (i := 0) (ks := []) (by decide +kernel) rfl ?_
  refine ty_bipush (pc := 21) (n := 24) (ks := []) (by decide +kernel) (by omega) ?_
  refine tk_newA (pc := 23) (at_ := .int) (t := 0) (s := 33) (i := j) (n := 24) (by decide +kernel) (by decide +kernel) (by decide) (by omega) ((tk_M_ne (by decide)).trans ((tk_M_ne (by decide)).trans hm33)) (by simp) (by decide) ?_
  rw [show (24 : Int).toNat = 24 from rfl]
  refine ty_putR (pc := 25) (idx := 19) (ci := 3) (f := 3) (by decide +kernel) hk rfl rfl (tk_p (tk_p (tk_p hp))) ?_
  rw [tk_sR]
  refine ty_aload_n (pc := 28) (i := 0) (ks := []) (by decide +kernel) rfl ?_
  refine ty_iconst (pc := 29) (n := 0) (ks := []) (by decide +kernel) ?_
  refine ty_putI (pc := 30) (idx := 22) (ci := 3) (f := 4) (by decide +kernel) hk rfl rfl (tk_p (tk_p (tk_p hp))) ?_
  rw [tk_sI]
  refine ty_aload_n (pc := 33) (i := 0) (ks := []) (by decide +kernel) rfl ?_
  refine ty_bipush (pc := 34) (n := 26) (ks := []) (by decide +kernel) (by omega) ?_
  refine tk_newA (pc := 36) (at_ := .int) (t := 0) (s := 34) (i := j) (n := 26) (by decide +kernel) (by decide +kernel) (by decide) (by omega) ((tk_M_ne (by decide)).trans ((tk_M_ne (by decide)).trans ((tk_M_ne (by decide)).trans hm34))) (by simp) (by decide) ?_
  rw [show (26 : Int).toNat = 26 from rfl]
  refine ty_putR (pc := 38) (idx := 26) (ci := 3) (f := 5) (by decide +kernel) hk rfl rfl (tk_p (tk_p (tk_p (tk_p hp)))) ?_
  rw [tk_sR]
  refine ty_aload_n (pc := 41) (i := 0) (ks := []) (by decide +kernel) rfl ?_
  refine ty_iconst (pc := 42) (n := 0) (ks := []) (by decide +kernel) ?_
  refine ty_putI (pc := 43) (idx := 29) (ci := 3) (f := 6) (by decide +kernel) hk rfl rfl (tk_p (tk_p (tk_p (tk_p hp)))) ?_
  rw [tk_sI]
  refine ty_aload_n (pc := 46) (i := 0) (ks := []) (by decide +kernel) rfl ?_
  refine ty_iload_n (pc := 47) (i := 1) (ks := []) (by decide +kernel) rfl ?_
  refine ty_putI (pc := 48) (idx := 32) (ci := 3) (f := 0) (by decide +kernel) hk rfl rfl (tk_p (tk_p (tk_p (tk_p hp)))) ?_
  rw [tk_sI]
  refine ty_ret_v (pc := 51) (ks := []) (by decide +kernel) rfl ?_
  exact ⟨rfl, rfl⟩
theorem tc_Terms (d : Nat) (hp : 0 < tk_M lm 12) (hm19 : tk_M lm 19 = 0) (hm20 : tk_M lm 20 = 0) (hm21 : tk_M lm 21 = 0) (hm22 : tk_M lm 22 = 0) :
    ty_C L xs (d + 1) 1 [.inr (.inr (some (12, 0)))] (tk (lI) (lR) (lQ) (lm) (w)) (ty_oV fun S' => S' = tk (lI) (((12, 0), some 3, some (22, 0)) :: ((12, 0), some 2, some (21, 0)) :: ((12, 0), some 1, some (20, 0)) :: ((12, 0), some 0, some (19, 0)) :: lR) (lQ) (22 :: 21 :: 20 :: 19 :: lm) (w + 624 + 624 + 1872 + 624)) := by
  refine ty_enter (ml := 1) (ls := [_]) rfl rfl (Nat.le_of_ble_eq_true rfl) ?_
  refine ty_aload_n (pc := 0) (i := 0) (ks := []) (by decide +kernel) rfl ?_
  refine ty_objinit (pc := 1) (ins := .invokespecial 3) (ks := []) (by decide +kernel) (Nat.le_of_ble_eq_true rfl) ?_
  refine ty_aload_n (pc := 4) (i := 0) (ks := []) (by decide +kernel) rfl ?_
  refine ty_sipush (pc := 5) (n := 624) (ks := []) (by decide +kernel) (by omega) ?_
  refine tk_newA (pc := 8) (at_ := .char) (t := 1) (s := 19) (i := 0) (n := 624) (by decide +kernel) (by decide +kernel) (by decide) (by omega) hm19 (by simp) (by decide) ?_
  rw [show (624 : Int).toNat = 624 from rfl]
  refine ty_putR (pc := 10) (idx := 9) (ci := 1) (f := 0) (by decide +kernel) (by decide +kernel) rfl rfl (tk_p hp) ?_
  rw [tk_sR]
  refine ty_aload_n (pc := 13) (i := 0) (ks := []) (by decide +kernel) rfl ?_
  refine ty_sipush (pc := 14) (n := 624) (ks := []) (by decide +kernel) (by omega) ?_
  refine tk_newA (pc := 17) (at_ := .int) (t := 0) (s := 20) (i := 0) (n := 624) (by decide +kernel) (by decide +kernel) (by decide) (by omega) ((tk_M_ne (by decide)).trans hm20) (by simp) (by decide) ?_
  rw [show (624 : Int).toNat = 624 from rfl]
  refine ty_putR (pc := 19) (idx := 15) (ci := 1) (f := 1) (by decide +kernel) (by decide +kernel) rfl rfl (tk_p (tk_p hp)) ?_
  rw [tk_sR]
  refine ty_aload_n (pc := 22) (i := 0) (ks := []) (by decide +kernel) rfl ?_
  refine ty_sipush (pc := 23) (n := 1872) (ks := []) (by decide +kernel) (by omega) ?_
  refine tk_newA (pc := 26) (at_ := .int) (t := 0) (s := 21) (i := 0) (n := 1872) (by decide +kernel) (by decide +kernel) (by decide) (by omega) ((tk_M_ne (by decide)).trans ((tk_M_ne (by decide)).trans hm21)) (by simp) (by decide) ?_
  rw [show (1872 : Int).toNat = 1872 from rfl]
  refine ty_putR (pc := 28) (idx := 19) (ci := 1) (f := 2) (by decide +kernel) (by decide +kernel) rfl rfl (tk_p (tk_p (tk_p hp))) ?_
  rw [tk_sR]
  refine ty_aload_n (pc := 31) (i := 0) (ks := []) (by decide +kernel) rfl ?_
  refine ty_sipush (pc := 32) (n := 624) (ks := []) (by decide +kernel) (by omega) ?_
  refine tk_newA (pc := 35) (at_ := .int) (t := 0) (s := 22) (i := 0) (n := 624) (by decide +kernel) (by decide +kernel) (by decide) (by omega) ((tk_M_ne (by decide)).trans ((tk_M_ne (by decide)).trans ((tk_M_ne (by decide)).trans hm22))) (by simp) (by decide) ?_
  rw [show (624 : Int).toNat = 624 from rfl]
  refine ty_putR (pc := 37) (idx := 22) (ci := 1) (f := 3) (by decide +kernel) (by decide +kernel) rfl rfl (tk_p (tk_p (tk_p (tk_p hp)))) ?_
  rw [tk_sR]
  refine ty_ret_v (pc := 40) (ks := []) (by decide +kernel) rfl ?_
  exact ⟨rfl, rfl⟩
theorem tc_Variables (d : Nat) (hp : 0 < tk_M lm 13) (hm23 : tk_M lm 23 = 0) (hm24 : tk_M lm 24 = 0) (hm25 : tk_M lm 25 = 0) (hm26 : tk_M lm 26 = 0) (hm27 : tk_M lm 27 = 0) (hm28 : tk_M lm 28 = 0) (hm29 : tk_M lm 29 = 0) (hm30 : tk_M lm 30 = 0) :
    ty_C L xs (d + 1) 2 [.inr (.inr (some (13, 0))), .inr (.inr (some (12, 0)))] (tk (lI) (lR) (lQ) (lm) (w)) (ty_oV fun S' => S' = tk (((13, 0), some 13, 0) :: ((13, 0), some 10, 0) :: ((13, 0), some 7, 0) :: ((13, 0), some 5, 0) :: ((13, 0), some 4, 0) :: lI) (((13, 0), some 0, some (12, 0)) :: ((13, 0), some 12, some (30, 0)) :: ((13, 0), some 11, some (29, 0)) :: ((13, 0), some 9, some (28, 0)) :: ((13, 0), some 8, some (27, 0)) :: ((13, 0), some 6, some (26, 0)) :: ((13, 0), some 3, some (25, 0)) :: ((13, 0), some 2, some (24, 0)) :: ((13, 0), some 1, some (23, 0)) :: lR) (lQ) (30 :: 29 :: 28 :: 27 :: 26 :: 25 :: 24 :: 23 :: lm) (w + 128 + 128 + 128 + 500 + 500 + 500 + 500 + 500)) := by
  refine ty_enter (ml := 2) (ls := [_, _]) rfl rfl (Nat.le_of_ble_eq_true rfl) ?_
  refine ty_aload_n (pc := 0) (i := 0) (ks := []) (by decide +kernel) rfl ?_
  refine ty_objinit (pc := 1) (ins := .invokespecial 3) (ks := []) (by decide +kernel) (Nat.le_of_ble_eq_true rfl) ?_
  refine ty_aload_n (pc := 4) (i := 0) (ks := []) (by decide +kernel) rfl ?_
  refine ty_sipush (pc := 5) (n := 128) (ks := []) (by decide +kernel) (by omega) ?_
  refine tk_newA (pc := 8) (at_ := .int) (t := 0) (s := 23) (i := 0) (n := 128) (by decide +kernel) (by decide +kernel) (by decide) (by omega) hm23 (by simp) (by decide) ?_
  rw [show (128 : Int).toNat = 128 from rfl]
  refine ty_putR (pc := 10) (idx := 9) (ci := 2) (f := 1) (by decide +kernel) (by decide +kernel) rfl rfl (tk_p hp) ?_
  rw [tk_sR]
  refine ty_aload_n (pc := 13) (i := 0) (ks := []) (by decide +kernel) rfl ?_
  refine ty_sipush (pc := 14) (n := 128) (ks := []) (by decide +kernel) (by omega) ?_
  refine tk_newA (pc := 17) (at_ := .int) (t := 0) (s := 24) (i := 0) (n := 128) (by decide +kernel) (by decide +kernel) (by decide) (by omega) ((tk_M_ne (by decide)).trans hm24) (by simp) (by decide) ?_
  rw [show (128 : Int).toNat = 128 from rfl]
  refine ty_putR (pc := 19) (idx := 15) (ci := 2) (f := 2) (by decide +kernel) (by decide +kernel) rfl rfl (tk_p (tk_p hp)) ?_
  rw [tk_sR]
  refine ty_aload_n (pc := 22) (i := 0) (ks := []) (by decide +kernel) rfl ?_
  refine ty_sipush (pc := 23) (n := 128) (ks := []) (by decide +kernel) (by omega) ?_
  refine tk_newA (pc := 26) (at_ := .int) (t := 0) (s := 25) (i := 0) (n := 128) (by decide +kernel) (by decide +kernel) (by decide) (by omega) ((tk_M_ne (by decide)).trans ((tk_M_ne (by decide)).trans hm25)) (by simp) (by decide) ?_
  rw [show (128 : Int).toNat = 128 from rfl]
  refine ty_putR (pc := 28) (idx := 18) (ci := 2) (f := 3) (by decide +kernel) (by decide +kernel) rfl rfl (tk_p (tk_p (tk_p hp))) ?_
  rw [tk_sR]
  refine ty_aload_n (pc := 31) (i := 0) (ks := []) (by decide +kernel) rfl ?_
  refine ty_iconst (pc := 32) (n := 0) (ks := []) (by decide +kernel) ?_
  refine ty_putI (pc := 33) (idx := 21) (ci := 2) (f := 4) (by decide +kernel) (by decide +kernel) rfl rfl (tk_p (tk_p (tk_p hp))) ?_
  rw [tk_sI]
  refine ty_aload_n (pc := 36) (i := 0) (ks := []) (by decide +kernel) rfl ?_
  refine ty_iconst (pc := 37) (n := 0) (ks := []) (by decide +kernel) ?_
  refine ty_putI (pc := 38) (idx := 25) (ci := 2) (f := 5) (by decide +kernel) (by decide +kernel) rfl rfl (tk_p (tk_p (tk_p hp))) ?_
  rw [tk_sI]
  refine ty_aload_n (pc := 41) (i := 0) (ks := []) (by decide +kernel) rfl ?_
  refine ty_sipush (pc := 42) (n := 500) (ks := []) (by decide +kernel) (by omega) ?_
  refine tk_newA (pc := 45) (at_ := .int) (t := 0) (s := 26) (i := 0) (n := 500) (by decide +kernel) (by decide +kernel) (by decide) (by omega) ((tk_M_ne (by decide)).trans ((tk_M_ne (by decide)).trans ((tk_M_ne (by decide)).trans hm26))) (by simp) (by decide) ?_
  rw [show (500 : Int).toNat = 500 from rfl]
  refine ty_putR (pc := 47) (idx := 28) (ci := 2) (f := 6) (by decide +kernel) (by decide +kernel) rfl rfl (tk_p (tk_p (tk_p (tk_p hp)))) ?_
  rw [tk_sR]
  refine ty_aload_n (pc := 50) (i := 0) (ks := []) (by decide +kernel) rfl ?_
  refine ty_iconst (pc := 51) (n := 0) (ks := []) (by decide +kernel) ?_
  refine ty_putI (pc := 52) (idx := 31) (ci := 2) (f := 7) (by decide +kernel) (by decide +kernel) rfl rfl (tk_p (tk_p (tk_p (tk_p hp)))) ?_
  rw [tk_sI]
  refine ty_aload_n (pc := 55) (i := 0) (ks := []) (by decide +kernel) rfl ?_
  refine ty_sipush (pc := 56) (n := 500) (ks := []) (by decide +kernel) (by omega) ?_
  refine tk_newA (pc := 59) (at_ := .int) (t := 0) (s := 27) (i := 0) (n := 500) (by decide +kernel) (by decide +kernel) (by decide) (by omega) ((tk_M_ne (by decide)).trans ((tk_M_ne (by decide)).trans ((tk_M_ne (by decide)).trans ((tk_M_ne (by decide)).trans hm27)))) (by simp) (by decide) ?_
  rw [show (500 : Int).toNat = 500 from rfl]
  refine ty_putR (pc := 61) (idx := 34) (ci := 2) (f := 8) (by decide +kernel) (by decide +kernel) rfl rfl (tk_p (tk_p (tk_p (tk_p (tk_p hp))))) ?_
  rw [tk_sR]
  refine ty_aload_n (pc := 64) (i := 0) (ks := []) (by decide +kernel) rfl ?_
  refine ty_sipush (pc := 65) (n := 500) (ks := []) (by decide +kernel) (by omega) ?_
  refine tk_newA (pc := 68) (at_ := .int) (t := 0) (s := 28) (i := 0) (n := 500) (by decide +kernel) (by decide +kernel) (by decide) (by omega) ((tk_M_ne (by decide)).trans ((tk_M_ne (by decide)).trans ((tk_M_ne (by decide)).trans ((tk_M_ne (by decide)).trans ((tk_M_ne (by decide)).trans hm28))))) (by simp) (by decide) ?_
  rw [show (500 : Int).toNat = 500 from rfl]
  refine ty_putR (pc := 70) (idx := 37) (ci := 2) (f := 9) (by decide +kernel) (by decide +kernel) rfl rfl (tk_p (tk_p (tk_p (tk_p (tk_p (tk_p hp)))))) ?_
  rw [tk_sR]
  refine ty_aload_n (pc := 73) (i := 0) (ks := []) (by decide +kernel) rfl ?_
  refine ty_iconst (pc := 74) (n := 0) (ks := []) (by decide +kernel) ?_
  refine ty_putI (pc := 75) (idx := 40) (ci := 2) (f := 10) (by decide +kernel) (by decide +kernel) rfl rfl (tk_p (tk_p (tk_p (tk_p (tk_p (tk_p hp)))))) ?_
  rw [tk_sI]
  refine ty_aload_n (pc := 78) (i := 0) (ks := []) (by decide +kernel) rfl ?_
  refine ty_sipush (pc := 79) (n := 500) (ks := []) (by decide +kernel) (by omega) ?_
  refine tk_newA (pc := 82) (at_ := .int) (t := 0) (s := 29) (i := 0) (n := 500) (by decide +kernel) (by decide +kernel) (by decide) (by omega) ((tk_M_ne (by decide)).trans ((tk_M_ne (by decide)).trans ((tk_M_ne (by decide)).trans ((tk_M_ne (by decide)).trans ((tk_M_ne (by decide)).trans ((tk_M_ne (by decide)).trans hm29)))))) (by simp) (by decide) ?_
  rw [show (500 : Int).toNat = 500 from rfl]
  refine ty_putR (pc := 84) (idx := 43) (ci := 2) (f := 11) (by decide +kernel) (by decide +kernel) rfl rfl (tk_p (tk_p (tk_p (tk_p (tk_p (tk_p (tk_p hp))))))) ?_
  rw [tk_sR]
  refine ty_aload_n (pc := 87) (i := 0) (ks := []) (by decide +kernel) rfl ?_
  refine ty_sipush (pc := 88) (n := 500) (ks := []) (by decide +kernel) (by omega) ?_
  refine tk_newA (pc := 91) (at_ := .int) (t := 0) (s := 30) (i := 0) (n := 500) (by decide +kernel) (by decide +kernel) (by decide) (by omega) ((tk_M_ne (by decide)).trans ((tk_M_ne (by decide)).trans ((tk_M_ne (by decide)).trans ((tk_M_ne (by decide)).trans ((tk_M_ne (by decide)).trans ((tk_M_ne (by decide)).trans ((tk_M_ne (by decide)).trans hm30))))))) (by simp) (by decide) ?_
  rw [show (500 : Int).toNat = 500 from rfl]
  refine ty_putR (pc := 93) (idx := 46) (ci := 2) (f := 12) (by decide +kernel) (by decide +kernel) rfl rfl (tk_p (tk_p (tk_p (tk_p (tk_p (tk_p (tk_p (tk_p hp)))))))) ?_
  rw [tk_sR]
  refine ty_aload_n (pc := 96) (i := 0) (ks := []) (by decide +kernel) rfl ?_
  refine ty_iconst (pc := 97) (n := 0) (ks := []) (by decide +kernel) ?_
  refine ty_putI (pc := 98) (idx := 49) (ci := 2) (f := 13) (by decide +kernel) (by decide +kernel) rfl rfl (tk_p (tk_p (tk_p (tk_p (tk_p (tk_p (tk_p (tk_p hp)))))))) ?_
  rw [tk_sI]
  refine ty_aload_n (pc := 101) (i := 0) (ks := []) (by decide +kernel) rfl ?_
  refine ty_aload_n (pc := 102) (i := 1) (ks := []) (by decide +kernel) rfl ?_
  refine ty_putR (pc := 103) (idx := 52) (ci := 2) (f := 0) (by decide +kernel) (by decide +kernel) rfl rfl (tk_p (tk_p (tk_p (tk_p (tk_p (tk_p (tk_p (tk_p hp)))))))) ?_
  rw [tk_sR]
  refine ty_ret_v (pc := 106) (ks := []) (by decide +kernel) rfl ?_
  exact ⟨rfl, rfl⟩
theorem tc_Steps (d : Nat) (hp : 0 < tk_M lm 37) :
    ty_C L xs (d + 1) 9 [.inr (.inr (some (37, 0)))] (tk (lI) (lR) (lQ) (lm) (w)) (ty_oV fun S' => S' = tk (((37, 0), some 0, 0) :: lI) (lR) (lQ) (lm) (w)) := by
  refine ty_enter (ml := 1) (ls := [_]) rfl rfl (Nat.le_of_ble_eq_true rfl) ?_
  refine ty_aload_n (pc := 0) (i := 0) (ks := []) (by decide +kernel) rfl ?_
  refine ty_objinit (pc := 1) (ins := .invokespecial 3) (ks := []) (by decide +kernel) (Nat.le_of_ble_eq_true rfl) ?_
  refine ty_aload_n (pc := 4) (i := 0) (ks := []) (by decide +kernel) rfl ?_
  refine ty_iconst (pc := 5) (n := 0) (ks := []) (by decide +kernel) ?_
  refine ty_putI (pc := 6) (idx := 9) (ci := 7) (f := 0) (by decide +kernel) (by decide +kernel) rfl rfl hp ?_
  rw [tk_sI]
  refine ty_ret_v (pc := 9) (ks := []) (by decide +kernel) rfl ?_
  exact ⟨rfl, rfl⟩
theorem tc_Pairs (d : Nat) (hp : 0 < tk_M lm 38) (hm40 : tk_M lm 40 = 0) (hm41 : tk_M lm 41 = 0) (hm42 : tk_M lm 42 = 0) :
    ty_C L xs (d + 1) 10 [.inr (.inr (some (38, 0))), .inr (.inr (some (12, 0))), .inr (.inr (some (13, 0))), .inr (.inr (some (37, 0)))] (tk (lI) (lR) (lQ) (lm) (w)) (ty_oV fun S' => S' = tk (((38, 0), some 7, 0) :: ((38, 0), some 5, 0) :: lI) (((38, 0), some 2, some (37, 0)) :: ((38, 0), some 1, some (13, 0)) :: ((38, 0), some 0, some (12, 0)) :: ((38, 0), some 6, some (42, 0)) :: ((38, 0), some 4, some (41, 0)) :: ((38, 0), some 3, some (40, 0)) :: lR) (lQ) (42 :: 41 :: 40 :: lm) (w + 1003 + 1003 + 500)) := by
  refine ty_enter (ml := 4) (ls := [_, _, _, _]) rfl rfl (Nat.le_of_ble_eq_true rfl) ?_
  refine ty_aload_n (pc := 0) (i := 0) (ks := []) (by decide +kernel) rfl ?_
  refine ty_objinit (pc := 1) (ins := .invokespecial 3) (ks := []) (by decide +kernel) (Nat.le_of_ble_eq_true rfl) ?_
  refine ty_aload_n (pc := 4) (i := 0) (ks := []) (by decide +kernel) rfl ?_
  refine ty_sipush (pc := 5) (n := 1003) (ks := []) (by decide +kernel) (by omega) ?_
  refine tk_newA (pc := 8) (at_ := .int) (t := 0) (s := 40) (i := 0) (n := 1003) (by decide +kernel) (by decide +kernel) (by decide) (by omega) hm40 (by simp) (by decide) ?_
  rw [show (1003 : Int).toNat = 1003 from rfl]
  refine ty_putR (pc := 10) (idx := 11) (ci := 8) (f := 3) (by decide +kernel) (by decide +kernel) rfl rfl (tk_p hp) ?_
  rw [tk_sR]
  refine ty_aload_n (pc := 13) (i := 0) (ks := []) (by decide +kernel) rfl ?_
  refine ty_sipush (pc := 14) (n := 1003) (ks := []) (by decide +kernel) (by omega) ?_
  refine tk_newA (pc := 17) (at_ := .int) (t := 0) (s := 41) (i := 0) (n := 1003) (by decide +kernel) (by decide +kernel) (by decide) (by omega) ((tk_M_ne (by decide)).trans hm41) (by simp) (by decide) ?_
  rw [show (1003 : Int).toNat = 1003 from rfl]
  refine ty_putR (pc := 19) (idx := 15) (ci := 8) (f := 4) (by decide +kernel) (by decide +kernel) rfl rfl (tk_p (tk_p hp)) ?_
  rw [tk_sR]
  refine ty_aload_n (pc := 22) (i := 0) (ks := []) (by decide +kernel) rfl ?_
  refine ty_iconst (pc := 23) (n := 0) (ks := []) (by decide +kernel) ?_
  refine ty_putI (pc := 24) (idx := 18) (ci := 8) (f := 5) (by decide +kernel) (by decide +kernel) rfl rfl (tk_p (tk_p hp)) ?_
  rw [tk_sI]
  refine ty_aload_n (pc := 27) (i := 0) (ks := []) (by decide +kernel) rfl ?_
  refine ty_sipush (pc := 28) (n := 500) (ks := []) (by decide +kernel) (by omega) ?_
  refine tk_newA (pc := 31) (at_ := .int) (t := 0) (s := 42) (i := 0) (n := 500) (by decide +kernel) (by decide +kernel) (by decide) (by omega) ((tk_M_ne (by decide)).trans ((tk_M_ne (by decide)).trans hm42)) (by simp) (by decide) ?_
  rw [show (500 : Int).toNat = 500 from rfl]
  refine ty_putR (pc := 33) (idx := 22) (ci := 8) (f := 6) (by decide +kernel) (by decide +kernel) rfl rfl (tk_p (tk_p (tk_p hp))) ?_
  rw [tk_sR]
  refine ty_aload_n (pc := 36) (i := 0) (ks := []) (by decide +kernel) rfl ?_
  refine ty_iconst (pc := 37) (n := 0) (ks := []) (by decide +kernel) ?_
  refine ty_putI (pc := 38) (idx := 25) (ci := 8) (f := 7) (by decide +kernel) (by decide +kernel) rfl rfl (tk_p (tk_p (tk_p hp))) ?_
  rw [tk_sI]
  refine ty_aload_n (pc := 41) (i := 0) (ks := []) (by decide +kernel) rfl ?_
  refine ty_aload_n (pc := 42) (i := 1) (ks := []) (by decide +kernel) rfl ?_
  refine ty_putR (pc := 43) (idx := 28) (ci := 8) (f := 0) (by decide +kernel) (by decide +kernel) rfl rfl (tk_p (tk_p (tk_p hp))) ?_
  rw [tk_sR]
  refine ty_aload_n (pc := 46) (i := 0) (ks := []) (by decide +kernel) rfl ?_
  refine ty_aload_n (pc := 47) (i := 2) (ks := []) (by decide +kernel) rfl ?_
  refine ty_putR (pc := 48) (idx := 32) (ci := 8) (f := 1) (by decide +kernel) (by decide +kernel) rfl rfl (tk_p (tk_p (tk_p hp))) ?_
  rw [tk_sR]
  refine ty_aload_n (pc := 51) (i := 0) (ks := []) (by decide +kernel) rfl ?_
  refine ty_aload_n (pc := 52) (i := 3) (ks := []) (by decide +kernel) rfl ?_
  refine ty_putR (pc := 53) (idx := 36) (ci := 8) (f := 2) (by decide +kernel) (by decide +kernel) rfl rfl (tk_p (tk_p (tk_p hp))) ?_
  rw [tk_sR]
  refine ty_ret_v (pc := 56) (ks := []) (by decide +kernel) rfl ?_
  exact ⟨rfl, rfl⟩
theorem tc_Aparts (d : Nat) (hp : 0 < tk_M lm 39) (hm43 : tk_M lm 43 = 0) (hm44 : tk_M lm 44 = 0) (hm45 : tk_M lm 45 = 0) (hm46 : tk_M lm 46 = 0) :
    ty_C L xs (d + 1) 11 [.inr (.inr (some (39, 0))), .inr (.inr (some (13, 0))), .inr (.inr (some (38, 0)))] (tk (lI) (lR) (lQ) (lm) (w)) (ty_oV fun S' => S' = tk (((39, 0), some 7, 0) :: ((39, 0), some 5, 0) :: lI) (((39, 0), some 1, some (38, 0)) :: ((39, 0), some 0, some (13, 0)) :: ((39, 0), some 6, some (46, 0)) :: ((39, 0), some 4, some (45, 0)) :: ((39, 0), some 3, some (44, 0)) :: ((39, 0), some 2, some (43, 0)) :: lR) (lQ) (46 :: 45 :: 44 :: 43 :: lm) (w + 500 + 500 + 500 + 500)) := by
  refine ty_enter (ml := 3) (ls := [_, _, _]) rfl rfl (Nat.le_of_ble_eq_true rfl) ?_
  refine ty_aload_n (pc := 0) (i := 0) (ks := []) (by decide +kernel) rfl ?_
  refine ty_objinit (pc := 1) (ins := .invokespecial 3) (ks := []) (by decide +kernel) (Nat.le_of_ble_eq_true rfl) ?_
  refine ty_aload_n (pc := 4) (i := 0) (ks := []) (by decide +kernel) rfl ?_
  refine ty_sipush (pc := 5) (n := 500) (ks := []) (by decide +kernel) (by omega) ?_
  refine tk_newA (pc := 8) (at_ := .int) (t := 0) (s := 43) (i := 0) (n := 500) (by decide +kernel) (by decide +kernel) (by decide) (by omega) hm43 (by simp) (by decide) ?_
  rw [show (500 : Int).toNat = 500 from rfl]
  refine ty_putR (pc := 10) (idx := 9) (ci := 9) (f := 2) (by decide +kernel) (by decide +kernel) rfl rfl (tk_p hp) ?_
  rw [tk_sR]
  refine ty_aload_n (pc := 13) (i := 0) (ks := []) (by decide +kernel) rfl ?_
  refine ty_sipush (pc := 14) (n := 500) (ks := []) (by decide +kernel) (by omega) ?_
  refine tk_newA (pc := 17) (at_ := .int) (t := 0) (s := 44) (i := 0) (n := 500) (by decide +kernel) (by decide +kernel) (by decide) (by omega) ((tk_M_ne (by decide)).trans hm44) (by simp) (by decide) ?_
  rw [show (500 : Int).toNat = 500 from rfl]
  refine ty_putR (pc := 19) (idx := 15) (ci := 9) (f := 3) (by decide +kernel) (by decide +kernel) rfl rfl (tk_p (tk_p hp)) ?_
  rw [tk_sR]
  refine ty_aload_n (pc := 22) (i := 0) (ks := []) (by decide +kernel) rfl ?_
  refine ty_sipush (pc := 23) (n := 500) (ks := []) (by decide +kernel) (by omega) ?_
  refine tk_newA (pc := 26) (at_ := .boolean) (t := 2) (s := 45) (i := 0) (n := 500) (by decide +kernel) (by decide +kernel) (by decide) (by omega) ((tk_M_ne (by decide)).trans ((tk_M_ne (by decide)).trans hm45)) (by simp) (by decide) ?_
  rw [show (500 : Int).toNat = 500 from rfl]
  refine ty_putR (pc := 28) (idx := 18) (ci := 9) (f := 4) (by decide +kernel) (by decide +kernel) rfl rfl (tk_p (tk_p (tk_p hp))) ?_
  rw [tk_sR]
  refine ty_aload_n (pc := 31) (i := 0) (ks := []) (by decide +kernel) rfl ?_
  refine ty_iconst (pc := 32) (n := 0) (ks := []) (by decide +kernel) ?_
  refine ty_putI (pc := 33) (idx := 22) (ci := 9) (f := 5) (by decide +kernel) (by decide +kernel) rfl rfl (tk_p (tk_p (tk_p hp))) ?_
  rw [tk_sI]
  refine ty_aload_n (pc := 36) (i := 0) (ks := []) (by decide +kernel) rfl ?_
  refine ty_sipush (pc := 37) (n := 500) (ks := []) (by decide +kernel) (by omega) ?_
  refine tk_newA (pc := 40) (at_ := .int) (t := 0) (s := 46) (i := 0) (n := 500) (by decide +kernel) (by decide +kernel) (by decide) (by omega) ((tk_M_ne (by decide)).trans ((tk_M_ne (by decide)).trans ((tk_M_ne (by decide)).trans hm46))) (by simp) (by decide) ?_
  rw [show (500 : Int).toNat = 500 from rfl]
  refine ty_putR (pc := 42) (idx := 26) (ci := 9) (f := 6) (by decide +kernel) (by decide +kernel) rfl rfl (tk_p (tk_p (tk_p (tk_p hp)))) ?_
  rw [tk_sR]
  refine ty_aload_n (pc := 45) (i := 0) (ks := []) (by decide +kernel) rfl ?_
  refine ty_iconst (pc := 46) (n := 0) (ks := []) (by decide +kernel) ?_
  refine ty_putI (pc := 47) (idx := 29) (ci := 9) (f := 7) (by decide +kernel) (by decide +kernel) rfl rfl (tk_p (tk_p (tk_p (tk_p hp)))) ?_
  rw [tk_sI]
  refine ty_aload_n (pc := 50) (i := 0) (ks := []) (by decide +kernel) rfl ?_
  refine ty_aload_n (pc := 51) (i := 1) (ks := []) (by decide +kernel) rfl ?_
  refine ty_putR (pc := 52) (idx := 32) (ci := 9) (f := 0) (by decide +kernel) (by decide +kernel) rfl rfl (tk_p (tk_p (tk_p (tk_p hp)))) ?_
  rw [tk_sR]
  refine ty_aload_n (pc := 55) (i := 0) (ks := []) (by decide +kernel) rfl ?_
  refine ty_aload_n (pc := 56) (i := 2) (ks := []) (by decide +kernel) rfl ?_
  refine ty_putR (pc := 57) (idx := 36) (ci := 9) (f := 1) (by decide +kernel) (by decide +kernel) rfl rfl (tk_p (tk_p (tk_p (tk_p hp)))) ?_
  rw [tk_sR]
  refine ty_ret_v (pc := 60) (ks := []) (by decide +kernel) rfl ?_
  exact ⟨rfl, rfl⟩
theorem tc_Search (d : Nat) (hp : 0 < tk_M lm 17) (hm35 : tk_M lm 35 = 0) (hm36 : tk_M lm 36 = 0) (hm37 : tk_M lm 37 = 0) (hm38 : tk_M lm 38 = 0) (hm40 : tk_M lm 40 = 0) (hm41 : tk_M lm 41 = 0) (hm42 : tk_M lm 42 = 0) (hm39 : tk_M lm 39 = 0) (hm43 : tk_M lm 43 = 0) (hm44 : tk_M lm 44 = 0) (hm45 : tk_M lm 45 = 0) (hm46 : tk_M lm 46 = 0) :
    ty_C L xs (d + 4) 5 [.inr (.inr (some (17, 0))), .inr (.inr (some (12, 0))), .inr (.inr (some (13, 0)))] (tk (lI) (lR) (lQ) (lm) (w)) (ty_oV fun S' => S' = tk (((39, 0), some 7, 0) :: ((39, 0), some 5, 0) :: ((39, 0), none, 0) :: ((38, 0), some 7, 0) :: ((38, 0), some 5, 0) :: ((38, 0), none, 0) :: ((37, 0), some 0, 0) :: ((37, 0), none, 0) :: ((17, 0), some 15, 0) :: ((17, 0), some 14, 0) :: ((17, 0), some 12, 0) :: ((17, 0), some 11, 0) :: ((36, 0), some 2, 0) :: ((36, 0), none, 0) :: ((17, 0), some 8, 0) :: ((35, 0), some 2, 0) :: ((35, 0), none, 0) :: ((17, 0), some 6, 0) :: lI) (((17, 0), some 4, some (39, 0)) :: ((39, 0), some 1, some (38, 0)) :: ((39, 0), some 0, some (13, 0)) :: ((39, 0), some 6, some (46, 0)) :: ((39, 0), some 4, some (45, 0)) :: ((39, 0), some 3, some (44, 0)) :: ((39, 0), some 2, some (43, 0)) :: ((39, 0), none, none) :: ((17, 0), some 3, some (38, 0)) :: ((17, 0), some 2, some (37, 0)) :: ((17, 0), some 1, some (13, 0)) :: ((17, 0), some 0, some (12, 0)) :: ((38, 0), some 2, some (37, 0)) :: ((38, 0), some 1, some (13, 0)) :: ((38, 0), some 0, some (12, 0)) :: ((38, 0), some 6, some (42, 0)) :: ((38, 0), some 4, some (41, 0)) :: ((38, 0), some 3, some (40, 0)) :: ((38, 0), none, none) :: ((37, 0), none, none) :: ((17, 0), some 10, some (36, 0)) :: ((36, 0), some 0, some (0, 1)) :: ((36, 0), none, none) :: ((17, 0), some 7, some (35, 0)) :: ((35, 0), some 0, some (0, 1)) :: ((35, 0), none, none) :: lR) (lQ) (46 :: 45 :: 44 :: 43 :: 39 :: 42 :: 41 :: 40 :: 38 :: 37 :: 36 :: 35 :: lm) (w + 3 + 3 + 1 + 8 + 1003 + 1003 + 500 + 8 + 500 + 500 + 500 + 500)) := by
  refine ty_enter (ml := 5) (ls := [_, _, _, _, _]) rfl rfl (Nat.le_of_ble_eq_true rfl) ?_
  refine ty_aload_n (pc := 0) (i := 0) (ks := []) (by decide +kernel) rfl ?_
  refine ty_objinit (pc := 1) (ins := .invokespecial 3) (ks := []) (by decide +kernel) (Nat.le_of_ble_eq_true rfl) ?_
  refine ty_aload_n (pc := 4) (i := 0) (ks := []) (by decide +kernel) rfl ?_
  refine ty_iconst (pc := 5) (n := 0) (ks := []) (by decide +kernel) ?_
  refine ty_putI (pc := 6) (idx := 9) (ci := 5) (f := 6) (by decide +kernel) (by decide +kernel) rfl rfl hp ?_
  rw [tk_sI]
  refine ty_aload_n (pc := 9) (i := 0) (ks := []) (by decide +kernel) rfl ?_
  refine tk_newO (pc := 10) (idx := 15) (ci := 6) (s := 35) (i := 0) (by decide +kernel) (by decide +kernel) (by decide +kernel) hm35 ?_
  rw [show (ty_kd 6).length = 3 from rfl]
  refine ty_dup (pc := 13) (ks := []) (by decide +kernel) rfl ?_
  refine ty_callp (pc := 14) (idx := 17) (m := 6) (n := 1) (c := 0) (vs := []) (r := [_, _]) (by decide +kernel) rfl rfl (Nat.le_of_ble_eq_true rfl) ((tc_ArrayList d (a := (35, 0)) (by decide +kernel) (by rw [tk_M_eq]; omega)).deeper (by omega)) ?_
  rintro _ _ ⟨rfl, rfl⟩
  refine ty_KV ?_
  refine ty_putR (pc := 17) (idx := 18) (ci := 5) (f := 7) (by decide +kernel) (by decide +kernel) rfl rfl (tk_p hp) ?_
  rw [tk_sR]
  refine ty_aload_n (pc := 20) (i := 0) (ks := []) (by decide +kernel) rfl ?_
  refine ty_iconst (pc := 21) (n := 0) (ks := []) (by decide +kernel) ?_
  refine ty_putI (pc := 22) (idx := 22) (ci := 5) (f := 8) (by decide +kernel) (by decide +kernel) rfl rfl (tk_p hp) ?_
  rw [tk_sI]
  refine ty_aload_n (pc := 25) (i := 0) (ks := []) (by decide +kernel) rfl ?_
  refine tk_newO (pc := 26) (idx := 15) (ci := 6) (s := 36) (i := 0) (by decide +kernel) (by decide +kernel) (by decide +kernel) ((tk_M_ne (by decide)).trans hm36) ?_
  rw [show (ty_kd 6).length = 3 from rfl]
  refine ty_dup (pc := 29) (ks := []) (by decide +kernel) rfl ?_
  refine ty_callp (pc := 30) (idx := 17) (m := 6) (n := 1) (c := 0) (vs := []) (r := [_, _]) (by decide +kernel) rfl rfl (Nat.le_of_ble_eq_true rfl) ((tc_ArrayList d (a := (36, 0)) (by decide +kernel) (by rw [tk_M_eq]; omega)).deeper (by omega)) ?_
  rintro _ _ ⟨rfl, rfl⟩
  refine ty_KV ?_
  refine ty_putR (pc := 33) (idx := 25) (ci := 5) (f := 10) (by decide +kernel) (by decide +kernel) rfl rfl (tk_p (tk_p hp)) ?_
  rw [tk_sR]
  refine ty_aload_n (pc := 36) (i := 0) (ks := []) (by decide +kernel) rfl ?_
  refine ty_iconst (pc := 37) (n := 0) (ks := []) (by decide +kernel) ?_
  refine ty_putI (pc := 38) (idx := 28) (ci := 5) (f := 11) (by decide +kernel) (by decide +kernel) rfl rfl (tk_p (tk_p hp)) ?_
  rw [tk_sI]
  refine ty_aload_n (pc := 41) (i := 0) (ks := []) (by decide +kernel) rfl ?_
  refine ty_iconst (pc := 42) (n := 0) (ks := []) (by decide +kernel) ?_
  refine ty_putI (pc := 43) (idx := 31) (ci := 5) (f := 12) (by decide +kernel) (by decide +kernel) rfl rfl (tk_p (tk_p hp)) ?_
  rw [tk_sI]
  refine ty_aload_n (pc := 46) (i := 0) (ks := []) (by decide +kernel) rfl ?_
  refine ty_iconst (pc := 47) (n := 0) (ks := []) (by decide +kernel) ?_
  refine ty_putI (pc := 48) (idx := 34) (ci := 5) (f := 14) (by decide +kernel) (by decide +kernel) rfl rfl (tk_p (tk_p hp)) ?_
  rw [tk_sI]
  refine ty_aload_n (pc := 51) (i := 0) (ks := []) (by decide +kernel) rfl ?_
  refine ty_iconst (pc := 52) (n := 0) (ks := []) (by decide +kernel) ?_
  refine ty_putI (pc := 53) (idx := 37) (ci := 5) (f := 15) (by decide +kernel) (by decide +kernel) rfl rfl (tk_p (tk_p hp)) ?_
  rw [tk_sI]
  refine tk_newO (pc := 56) (idx := 40) (ci := 7) (s := 37) (i := 0) (by decide +kernel) (by decide +kernel) (by decide +kernel) ((tk_M_ne (by decide)).trans ((tk_M_ne (by decide)).trans hm37)) ?_
  rw [show (ty_kd 7).length = 1 from rfl]
  refine ty_dup (pc := 59) (ks := []) (by decide +kernel) rfl ?_
  refine ty_callp (pc := 60) (idx := 42) (m := 9) (n := 1) (c := 0) (vs := []) (r := [_]) (by decide +kernel) rfl rfl (Nat.le_of_ble_eq_true rfl) ((tc_Steps d (by rw [tk_M_eq]; omega)).deeper (by omega)) ?_
  rintro _ _ ⟨rfl, rfl⟩
  refine ty_KV ?_
  refine ty_astore_n (pc := 63) (i := 3) (ks := []) (ls' := [_, _, _, _, _]) (by decide +kernel) rfl ?_
  refine tk_newO (pc := 64) (idx := 43) (ci := 8) (s := 38) (i := 0) (by decide +kernel) (by decide +kernel) (by decide +kernel) ((tk_M_ne (by decide)).trans ((tk_M_ne (by decide)).trans ((tk_M_ne (by decide)).trans hm38))) ?_
  rw [show (ty_kd 8).length = 8 from rfl]
  refine ty_dup (pc := 67) (ks := []) (by decide +kernel) rfl ?_
  refine ty_aload_n (pc := 68) (i := 1) (ks := []) (by decide +kernel) rfl ?_
  refine ty_aload_n (pc := 69) (i := 2) (ks := []) (by decide +kernel) rfl ?_
  refine ty_aload_n (pc := 70) (i := 3) (ks := []) (by decide +kernel) rfl ?_
  refine ty_callp (pc := 71) (idx := 45) (m := 10) (n := 4) (c := 0) (vs := [_, _, _]) (r := [_]) (by decide +kernel) rfl rfl (Nat.le_of_ble_eq_true rfl) ((tc_Pairs d (by rw [tk_M_eq]; omega) ((tk_M_ne (by decide)).trans ((tk_M_ne (by decide)).trans ((tk_M_ne (by decide)).trans ((tk_M_ne (by decide)).trans hm40)))) ((tk_M_ne (by decide)).trans ((tk_M_ne (by decide)).trans ((tk_M_ne (by decide)).trans ((tk_M_ne (by decide)).trans hm41)))) ((tk_M_ne (by decide)).trans ((tk_M_ne (by decide)).trans ((tk_M_ne (by decide)).trans ((tk_M_ne (by decide)).trans hm42))))).deeper (by omega)) ?_
  rintro _ _ ⟨rfl, rfl⟩
  refine ty_KV ?_
  refine ty_astore (pc := 74) (i := 4) (ks := []) (ls' := [_, _, _, _, _]) (by decide +kernel) rfl ?_
  refine ty_aload_n (pc := 76) (i := 0) (ks := []) (by decide +kernel) rfl ?_
  refine ty_aload_n (pc := 77) (i := 1) (ks := []) (by decide +kernel) rfl ?_
  refine ty_putR (pc := 78) (idx := 48) (ci := 5) (f := 0) (by decide +kernel) (by decide +kernel) rfl rfl (tk_p (tk_p (tk_p (tk_p (tk_p (tk_p (tk_p hp))))))) ?_
  rw [tk_sR]
  refine ty_aload_n (pc := 81) (i := 0) (ks := []) (by decide +kernel) rfl ?_
  refine ty_aload_n (pc := 82) (i := 2) (ks := []) (by decide +kernel) rfl ?_
  refine ty_putR (pc := 83) (idx := 52) (ci := 5) (f := 1) (by decide +kernel) (by decide +kernel) rfl rfl (tk_p (tk_p (tk_p (tk_p (tk_p (tk_p (tk_p hp))))))) ?_
  rw [tk_sR]
  refine ty_aload_n (pc := 86) (i := 0) (ks := []) (by decide +kernel) rfl ?_
  refine ty_aload_n (pc := 87) (i := 3) (ks := []) (by decide +kernel) rfl ?_
  refine ty_putR (pc := 88) (idx := 56) (ci := 5) (f := 2) (by decide +kernel) (by decide +kernel) rfl rfl (tk_p (tk_p (tk_p (tk_p (tk_p (tk_p (tk_p hp))))))) ?_
  rw [tk_sR]
  refine ty_aload_n (pc := 91) (i := 0) (ks := []) (by decide +kernel) rfl ?_
  refine ty_aload (pc := 92) (i := 4) (ks := []) (by decide +kernel) rfl ?_
  refine ty_putR (pc := 94) (idx := 60) (ci := 5) (f := 3) (by decide +kernel) (by decide +kernel) rfl rfl (tk_p (tk_p (tk_p (tk_p (tk_p (tk_p (tk_p hp))))))) ?_
  rw [tk_sR]
  refine ty_aload_n (pc := 97) (i := 0) (ks := []) (by decide +kernel) rfl ?_
  refine tk_newO (pc := 98) (idx := 64) (ci := 9) (s := 39) (i := 0) (by decide +kernel) (by decide +kernel) (by decide +kernel) ((tk_M_ne (by decide)).trans ((tk_M_ne (by decide)).trans ((tk_M_ne (by decide)).trans ((tk_M_ne (by decide)).trans ((tk_M_ne (by decide)).trans ((tk_M_ne (by decide)).trans ((tk_M_ne (by decide)).trans hm39))))))) ?_
  rw [show (ty_kd 9).length = 8 from rfl]
  refine ty_dup (pc := 101) (ks := []) (by decide +kernel) rfl ?_
  refine ty_aload_n (pc := 102) (i := 2) (ks := []) (by decide +kernel) rfl ?_
  refine ty_aload (pc := 103) (i := 4) (ks := []) (by decide +kernel) rfl ?_
  refine ty_callp (pc := 105) (idx := 66) (m := 11) (n := 3) (c := 0) (vs := [_, _]) (r := [_, _]) (by decide +kernel) rfl rfl (Nat.le_of_ble_eq_true rfl) ((tc_Aparts d (by rw [tk_M_eq]; omega) ((tk_M_ne (by decide)).trans ((tk_M_ne (by decide)).trans ((tk_M_ne (by decide)).trans ((tk_M_ne (by decide)).trans ((tk_M_ne (by decide)).trans ((tk_M_ne (by decide)).trans ((tk_M_ne (by decide)).trans ((tk_M_ne (by decide)).trans hm43)))))))) ((tk_M_ne (by decide)).trans ((tk_M_ne (by decide)).trans ((tk_M_ne (by decide)).trans ((tk_M_ne (by decide)).trans ((tk_M_ne (by decide)).trans ((tk_M_ne (by decide)).trans ((tk_M_ne (by decide)).trans ((tk_M_ne (by decide)).trans hm44)))))))) ((tk_M_ne (by decide)).trans ((tk_M_ne (by decide)).trans ((tk_M_ne (by decide)).trans ((tk_M_ne (by decide)).trans ((tk_M_ne (by decide)).trans ((tk_M_ne (by decide)).trans ((tk_M_ne (by decide)).trans ((tk_M_ne (by decide)).trans hm45)))))))) ((tk_M_ne (by decide)).trans ((tk_M_ne (by decide)).trans ((tk_M_ne (by decide)).trans ((tk_M_ne (by decide)).trans ((tk_M_ne (by decide)).trans ((tk_M_ne (by decide)).trans ((tk_M_ne (by decide)).trans ((tk_M_ne (by decide)).trans hm46))))))))).deeper (by omega)) ?_
  rintro _ _ ⟨rfl, rfl⟩
  refine ty_KV ?_
  refine ty_putR (pc := 108) (idx := 69) (ci := 5) (f := 4) (by decide +kernel) (by decide +kernel) rfl rfl (tk_p (tk_p (tk_p (tk_p (tk_p (tk_p (tk_p (tk_p (tk_p (tk_p (tk_p (tk_p hp)))))))))))) ?_
  rw [tk_sR]
  refine ty_ret_v (pc := 111) (ks := []) (by decide +kernel) rfl ?_
  exact ⟨rfl, rfl⟩
theorem tc_Reader (d : Nat) (hp : 0 < tk_M lm 16) :
    ty_C L xs (d + 1) 4 [.inr (.inr (some (16, 0))), .inr (.inr (some (12, 0)))] (tk (lI) (lR) (lQ) (lm) (w)) (ty_oV fun S' => S' = tk (((16, 0), some 3, 0) :: ((16, 0), some 2, 0) :: lI) (((16, 0), some 0, some (12, 0)) :: lR) (lQ) (lm) (w)) := by
  refine ty_enter (ml := 2) (ls := [_, _]) rfl rfl (Nat.le_of_ble_eq_true rfl) ?_
  refine ty_aload_n (pc := 0) (i := 0) (ks := []) (by decide +kernel) rfl ?_
  refine ty_objinit (pc := 1) (ins := .invokespecial 3) (ks := []) (by decide +kernel) (Nat.le_of_ble_eq_true rfl) ?_
  refine ty_aload_n (pc := 4) (i := 0) (ks := []) (by decide +kernel) rfl ?_
  refine ty_iconst (pc := 5) (n := 0) (ks := []) (by decide +kernel) ?_
  refine ty_putI (pc := 6) (idx := 9) (ci := 4) (f := 2) (by decide +kernel) (by decide +kernel) rfl rfl hp ?_
  rw [tk_sI]
  refine ty_aload_n (pc := 9) (i := 0) (ks := []) (by decide +kernel) rfl ?_
  refine ty_iconst (pc := 10) (n := 0) (ks := []) (by decide +kernel) ?_
  refine ty_putI (pc := 11) (idx := 15) (ci := 4) (f := 3) (by decide +kernel) (by decide +kernel) rfl rfl hp ?_
  rw [tk_sI]
  refine ty_aload_n (pc := 14) (i := 0) (ks := []) (by decide +kernel) rfl ?_
  refine ty_aload_n (pc := 15) (i := 1) (ks := []) (by decide +kernel) rfl ?_
  refine ty_putR (pc := 16) (idx := 18) (ci := 4) (f := 0) (by decide +kernel) (by decide +kernel) rfl rfl hp ?_
  rw [tk_sR]
  refine ty_ret_v (pc := 19) (ks := []) (by decide +kernel) rfl ?_
  exact ⟨rfl, rfl⟩
theorem tc_Writer (d : Nat) (hp : 0 < tk_M lm 18) (hm47 : tk_M lm 47 = 0) :
    ty_C L xs (d + 1) 12 [.inr (.inr (some (18, 0))), .inr (.inr (some (12, 0))), .inr (.inr (some (13, 0)))] (tk (lI) (lR) (lQ) (lm) (w)) (ty_oV fun S' => S' = tk (((18, 0), some 3, 0) :: lI) (((18, 0), some 1, some (13, 0)) :: ((18, 0), some 0, some (12, 0)) :: ((18, 0), some 2, some (47, 0)) :: lR) (lQ) (47 :: lm) (w + 80)) := by
  refine ty_enter (ml := 3) (ls := [_, _, _]) rfl rfl (Nat.le_of_ble_eq_true rfl) ?_
  refine ty_aload_n (pc := 0) (i := 0) (ks := []) (by decide +kernel) rfl ?_
  refine ty_objinit (pc := 1) (ins := .invokespecial 3) (ks := []) (by decide +kernel) (Nat.le_of_ble_eq_true rfl) ?_
  refine ty_aload_n (pc := 4) (i := 0) (ks := []) (by decide +kernel) rfl ?_
  refine ty_bipush (pc := 5) (n := 80) (ks := []) (by decide +kernel) (by omega) ?_
  refine tk_newA (pc := 7) (at_ := .char) (t := 1) (s := 47) (i := 0) (n := 80) (by decide +kernel) (by decide +kernel) (by decide) (by omega) hm47 (by simp) (by decide) ?_
  rw [show (80 : Int).toNat = 80 from rfl]
  refine ty_putR (pc := 9) (idx := 9) (ci := 10) (f := 2) (by decide +kernel) (by decide +kernel) rfl rfl (tk_p hp) ?_
  rw [tk_sR]
  refine ty_aload_n (pc := 12) (i := 0) (ks := []) (by decide +kernel) rfl ?_
  refine ty_iconst (pc := 13) (n := 0) (ks := []) (by decide +kernel) ?_
  refine ty_putI (pc := 14) (idx := 15) (ci := 10) (f := 3) (by decide +kernel) (by decide +kernel) rfl rfl (tk_p hp) ?_
  rw [tk_sI]
  refine ty_aload_n (pc := 17) (i := 0) (ks := []) (by decide +kernel) rfl ?_
  refine ty_aload_n (pc := 18) (i := 1) (ks := []) (by decide +kernel) rfl ?_
  refine ty_putR (pc := 19) (idx := 19) (ci := 10) (f := 0) (by decide +kernel) (by decide +kernel) rfl rfl (tk_p hp) ?_
  rw [tk_sR]
  refine ty_aload_n (pc := 22) (i := 0) (ks := []) (by decide +kernel) rfl ?_
  refine ty_aload_n (pc := 23) (i := 2) (ks := []) (by decide +kernel) rfl ?_
  refine ty_putR (pc := 24) (idx := 23) (ci := 10) (f := 1) (by decide +kernel) (by decide +kernel) rfl rfl (tk_p hp) ?_
  rw [tk_sR]
  refine ty_ret_v (pc := 27) (ks := []) (by decide +kernel) rfl ?_
  exact ⟨rfl, rfl⟩
theorem tc_Model (d : Nat) (hp : 0 < tk_M lm 94) (hm53 : tk_M lm 53 = 0) (hm54 : tk_M lm 54 = 0) (hm55 : tk_M lm 55 = 0) (hm56 : tk_M lm 56 = 0) (hm57 : tk_M lm 57 = 0) (hm58 : tk_M lm 58 = 0) (hm59 : tk_M lm 59 = 0) (hm60 : tk_M lm 60 = 0) (hm61 : tk_M lm 61 = 0) (hm62 : tk_M lm 62 = 0) (hm63 : tk_M lm 63 = 0) (hm64 : tk_M lm 64 = 0) (hm65 : tk_M lm 65 = 0) (hm66 : tk_M lm 66 = 0) (hm67 : tk_M lm 67 = 0) (hm68 : tk_M lm 68 = 0) (hm69 : tk_M lm 69 = 0) (hm70 : tk_M lm 70 = 0) (hm71 : tk_M lm 71 = 0) (hm72 : tk_M lm 72 = 0) (hm73 : tk_M lm 73 = 0) (hm74 : tk_M lm 74 = 0) (hm75 : tk_M lm 75 = 0) (hm76 : tk_M lm 76 = 0) (hm77 : tk_M lm 77 = 0) (hm78 : tk_M lm 78 = 0) (hm79 : tk_M lm 79 = 0) (hm80 : tk_M lm 80 = 0) (hm81 : tk_M lm 81 = 0) (hm82 : tk_M lm 82 = 0) (hm83 : tk_M lm 83 = 0) (hm84 : tk_M lm 84 = 0) (hm85 : tk_M lm 85 = 0) (hm86 : tk_M lm 86 = 0) (hm87 : tk_M lm 87 = 0) (hm88 : tk_M lm 88 = 0) (hm89 : tk_M lm 89 = 0) (hm90 : tk_M lm 90 = 0) (hm91 : tk_M lm 91 = 0) (hm92 : tk_M lm 92 = 0) :
    ty_C L xs (d + 1) 102 [.inr (.inr (some (94, 0)))] (tk (lI) (lR) (lQ) (lm) (w)) (ty_oV fun S' => S' = tk (((94, 0), some 9, (-1)) :: lI) (((94, 0), some 62, some (92, 0)) :: ((94, 0), some 61, some (91, 0)) :: ((94, 0), some 60, some (90, 0)) :: ((94, 0), some 59, some (89, 0)) :: ((94, 0), some 58, some (88, 0)) :: ((94, 0), some 57, some (87, 0)) :: ((94, 0), some 56, some (86, 0)) :: ((94, 0), some 55, some (85, 0)) :: ((94, 0), some 54, some (84, 0)) :: ((94, 0), some 53, some (83, 0)) :: ((94, 0), some 52, some (82, 0)) :: ((94, 0), some 51, some (81, 0)) :: ((94, 0), some 50, some (80, 0)) :: ((94, 0), some 49, some (79, 0)) :: ((94, 0), some 48, some (78, 0)) :: ((94, 0), some 47, some (77, 0)) :: ((94, 0), some 46, some (76, 0)) :: ((94, 0), some 45, some (75, 0)) :: ((94, 0), some 44, some (74, 0)) :: ((94, 0), some 43, some (73, 0)) :: ((94, 0), some 42, some (72, 0)) :: ((94, 0), some 41, some (71, 0)) :: ((94, 0), some 24, some (70, 0)) :: ((94, 0), some 23, some (69, 0)) :: ((94, 0), some 22, some (68, 0)) :: ((94, 0), some 21, some (67, 0)) :: ((94, 0), some 20, some (66, 0)) :: ((94, 0), some 19, some (65, 0)) :: ((94, 0), some 18, some (64, 0)) :: ((94, 0), some 17, some (63, 0)) :: ((94, 0), some 16, some (62, 0)) :: ((94, 0), some 15, some (61, 0)) :: ((94, 0), some 14, some (60, 0)) :: ((94, 0), some 6, some (59, 0)) :: ((94, 0), some 5, some (58, 0)) :: ((94, 0), some 4, some (57, 0)) :: ((94, 0), some 3, some (56, 0)) :: ((94, 0), some 2, some (55, 0)) :: ((94, 0), some 1, some (54, 0)) :: ((94, 0), some 0, some (53, 0)) :: lR) (lQ) (92 :: 91 :: 90 :: 89 :: 88 :: 87 :: 86 :: 85 :: 84 :: 83 :: 82 :: 81 :: 80 :: 79 :: 78 :: 77 :: 76 :: 75 :: 74 :: 73 :: 72 :: 71 :: 70 :: 69 :: 68 :: 67 :: 66 :: 65 :: 64 :: 63 :: 62 :: 61 :: 60 :: 59 :: 58 :: 57 :: 56 :: 55 :: 54 :: 53 :: lm) (w + 48 + 624 + 12 + 8 + 8 + 26 + 26 + 24000 + 24000 + 72000 + 13000 + 13000 + 13000 + 14000 + 14000 + 14000 + 14000 + 14000 + 6000 + 6000 + 1200 + 1200 + 600 + 600 + 600 + 2200 + 2200 + 600 + 1200 + 600 + 600 + 600 + 600 + 600 + 600 + 600 + 600 + 600 + 80 + 800)) := by
  refine ty_enter (ml := 1) (ls := [_]) rfl rfl (Nat.le_of_ble_eq_true rfl) ?_
  refine ty_aload_n (pc := 0) (i := 0) (ks := []) (by decide +kernel) rfl ?_
  refine ty_objinit (pc := 1) (ins := .invokespecial 1) (ks := []) (by decide +kernel) (Nat.le_of_ble_eq_true rfl) ?_
  refine ty_aload_n (pc := 4) (i := 0) (ks := []) (by decide +kernel) rfl ?_
  refine ty_bipush (pc := 5) (n := 48) (ks := []) (by decide +kernel) (by omega) ?_
  refine tk_newA (pc := 7) (at_ := .int) (t := 0) (s := 53) (i := 0) (n := 48) (by decide +kernel) (by decide +kernel) (by decide) (by omega) hm53 (by simp) (by decide) ?_
  rw [show (48 : Int).toNat = 48 from rfl]
  refine ty_putR (pc := 9) (idx := 7) (ci := 13) (f := 0) (by decide +kernel) (by decide +kernel) rfl rfl (tk_p hp) ?_
  rw [tk_sR]
  refine ty_aload_n (pc := 12) (i := 0) (ks := []) (by decide +kernel) rfl ?_
  refine ty_sipush (pc := 13) (n := 624) (ks := []) (by decide +kernel) (by omega) ?_
  refine tk_newA (pc := 16) (at_ := .int) (t := 0) (s := 54) (i := 0) (n := 624) (by decide +kernel) (by decide +kernel) (by decide) (by omega) ((tk_M_ne (by decide)).trans hm54) (by simp) (by decide) ?_
  rw [show (624 : Int).toNat = 624 from rfl]
  refine ty_putR (pc := 18) (idx := 13) (ci := 13) (f := 1) (by decide +kernel) (by decide +kernel) rfl rfl (tk_p (tk_p hp)) ?_
  rw [tk_sR]
  refine ty_aload_n (pc := 21) (i := 0) (ks := []) (by decide +kernel) rfl ?_
  refine ty_bipush (pc := 22) (n := 12) (ks := []) (by decide +kernel) (by omega) ?_
  refine tk_newA (pc := 24) (at_ := .int) (t := 0) (s := 55) (i := 0) (n := 12) (by decide +kernel) (by decide +kernel) (by decide) (by omega) ((tk_M_ne (by decide)).trans ((tk_M_ne (by decide)).trans hm55)) (by simp) (by decide) ?_
  rw [show (12 : Int).toNat = 12 from rfl]
  refine ty_putR (pc := 26) (idx := 16) (ci := 13) (f := 2) (by decide +kernel) (by decide +kernel) rfl rfl (tk_p (tk_p (tk_p hp))) ?_
  rw [tk_sR]
  refine ty_aload_n (pc := 29) (i := 0) (ks := []) (by decide +kernel) rfl ?_
  refine ty_bipush (pc := 30) (n := 8) (ks := []) (by decide +kernel) (by omega) ?_
  refine tk_newA (pc := 32) (at_ := .int) (t := 0) (s := 56) (i := 0) (n := 8) (by decide +kernel) (by decide +kernel) (by decide) (by omega) ((tk_M_ne (by decide)).trans ((tk_M_ne (by decide)).trans ((tk_M_ne (by decide)).trans hm56))) (by simp) (by decide) ?_
  rw [show (8 : Int).toNat = 8 from rfl]
  refine ty_putR (pc := 34) (idx := 19) (ci := 13) (f := 3) (by decide +kernel) (by decide +kernel) rfl rfl (tk_p (tk_p (tk_p (tk_p hp)))) ?_
  rw [tk_sR]
  refine ty_aload_n (pc := 37) (i := 0) (ks := []) (by decide +kernel) rfl ?_
  refine ty_bipush (pc := 38) (n := 8) (ks := []) (by decide +kernel) (by omega) ?_
  refine tk_newA (pc := 40) (at_ := .int) (t := 0) (s := 57) (i := 0) (n := 8) (by decide +kernel) (by decide +kernel) (by decide) (by omega) ((tk_M_ne (by decide)).trans ((tk_M_ne (by decide)).trans ((tk_M_ne (by decide)).trans ((tk_M_ne (by decide)).trans hm57)))) (by simp) (by decide) ?_
  rw [show (8 : Int).toNat = 8 from rfl]
  refine ty_putR (pc := 42) (idx := 22) (ci := 13) (f := 4) (by decide +kernel) (by decide +kernel) rfl rfl (tk_p (tk_p (tk_p (tk_p (tk_p hp))))) ?_
  rw [tk_sR]
  refine ty_aload_n (pc := 45) (i := 0) (ks := []) (by decide +kernel) rfl ?_
  refine ty_bipush (pc := 46) (n := 26) (ks := []) (by decide +kernel) (by omega) ?_
  refine tk_newA (pc := 48) (at_ := .int) (t := 0) (s := 58) (i := 0) (n := 26) (by decide +kernel) (by decide +kernel) (by decide) (by omega) ((tk_M_ne (by decide)).trans ((tk_M_ne (by decide)).trans ((tk_M_ne (by decide)).trans ((tk_M_ne (by decide)).trans ((tk_M_ne (by decide)).trans hm58))))) (by simp) (by decide) ?_
  rw [show (26 : Int).toNat = 26 from rfl]
  refine ty_putR (pc := 50) (idx := 25) (ci := 13) (f := 5) (by decide +kernel) (by decide +kernel) rfl rfl (tk_p (tk_p (tk_p (tk_p (tk_p (tk_p hp)))))) ?_
  rw [tk_sR]
  refine ty_aload_n (pc := 53) (i := 0) (ks := []) (by decide +kernel) rfl ?_
  refine ty_bipush (pc := 54) (n := 26) (ks := []) (by decide +kernel) (by omega) ?_
  refine tk_newA (pc := 56) (at_ := .int) (t := 0) (s := 59) (i := 0) (n := 26) (by decide +kernel) (by decide +kernel) (by decide) (by omega) ((tk_M_ne (by decide)).trans ((tk_M_ne (by decide)).trans ((tk_M_ne (by decide)).trans ((tk_M_ne (by decide)).trans ((tk_M_ne (by decide)).trans ((tk_M_ne (by decide)).trans hm59)))))) (by simp) (by decide) ?_
  rw [show (26 : Int).toNat = 26 from rfl]
  refine ty_putR (pc := 58) (idx := 28) (ci := 13) (f := 6) (by decide +kernel) (by decide +kernel) rfl rfl (tk_p (tk_p (tk_p (tk_p (tk_p (tk_p (tk_p hp))))))) ?_
  rw [tk_sR]
  refine ty_aload_n (pc := 61) (i := 0) (ks := []) (by decide +kernel) rfl ?_
  refine ty_iconst (pc := 62) (n := (-1)) (ks := []) (by decide +kernel) ?_
  refine ty_putI (pc := 63) (idx := 31) (ci := 13) (f := 9) (by decide +kernel) (by decide +kernel) rfl rfl (tk_p (tk_p (tk_p (tk_p (tk_p (tk_p (tk_p hp))))))) ?_
  rw [tk_sI]
  refine ty_aload_n (pc := 66) (i := 0) (ks := []) (by decide +kernel) rfl ?_
  refine ty_sipush (pc := 67) (n := 24000) (ks := []) (by decide +kernel) (by omega) ?_
  refine tk_newA (pc := 70) (at_ := .int) (t := 0) (s := 60) (i := 0) (n := 24000) (by decide +kernel) (by decide +kernel) (by decide) (by omega) ((tk_M_ne (by decide)).trans ((tk_M_ne (by decide)).trans ((tk_M_ne (by decide)).trans ((tk_M_ne (by decide)).trans ((tk_M_ne (by decide)).trans ((tk_M_ne (by decide)).trans ((tk_M_ne (by decide)).trans hm60))))))) (by simp) (by decide) ?_
  rw [show (24000 : Int).toNat = 24000 from rfl]
  refine ty_putR (pc := 72) (idx := 35) (ci := 13) (f := 14) (by decide +kernel) (by decide +kernel) rfl rfl (tk_p (tk_p (tk_p (tk_p (tk_p (tk_p (tk_p (tk_p hp)))))))) ?_
  rw [tk_sR]
  refine ty_aload_n (pc := 75) (i := 0) (ks := []) (by decide +kernel) rfl ?_
  refine ty_sipush (pc := 76) (n := 24000) (ks := []) (by decide +kernel) (by omega) ?_
  refine tk_newA (pc := 79) (at_ := .int) (t := 0) (s := 61) (i := 0) (n := 24000) (by decide +kernel) (by decide +kernel) (by decide) (by omega) ((tk_M_ne (by decide)).trans ((tk_M_ne (by decide)).trans ((tk_M_ne (by decide)).trans ((tk_M_ne (by decide)).trans ((tk_M_ne (by decide)).trans ((tk_M_ne (by decide)).trans ((tk_M_ne (by decide)).trans ((tk_M_ne (by decide)).trans hm61)))))))) (by simp) (by decide) ?_
  rw [show (24000 : Int).toNat = 24000 from rfl]
  refine ty_putR (pc := 81) (idx := 38) (ci := 13) (f := 15) (by decide +kernel) (by decide +kernel) rfl rfl (tk_p (tk_p (tk_p (tk_p (tk_p (tk_p (tk_p (tk_p (tk_p hp))))))))) ?_
  rw [tk_sR]
  refine ty_aload_n (pc := 84) (i := 0) (ks := []) (by decide +kernel) rfl ?_
  refine ty_ldc (pc := 85) (idx := 41) (c := 72000) (z := 72000) (by decide +kernel) (by decide +kernel) ?_
  refine tk_newA (pc := 87) (at_ := .int) (t := 0) (s := 62) (i := 0) (n := 72000) (by decide +kernel) (by decide +kernel) (by decide) (by omega) ((tk_M_ne (by decide)).trans ((tk_M_ne (by decide)).trans ((tk_M_ne (by decide)).trans ((tk_M_ne (by decide)).trans ((tk_M_ne (by decide)).trans ((tk_M_ne (by decide)).trans ((tk_M_ne (by decide)).trans ((tk_M_ne (by decide)).trans ((tk_M_ne (by decide)).trans hm62))))))))) (by simp) (by decide) ?_
  rw [show (72000 : Int).toNat = 72000 from rfl]
  refine ty_putR (pc := 89) (idx := 42) (ci := 13) (f := 16) (by decide +kernel) (by decide +kernel) rfl rfl (tk_p (tk_p (tk_p (tk_p (tk_p (tk_p (tk_p (tk_p (tk_p (tk_p hp)))))))))) ?_
  rw [tk_sR]
  refine ty_aload_n (pc := 92) (i := 0) (ks := []) (by decide +kernel) rfl ?_
  refine ty_sipush (pc := 93) (n := 13000) (ks := []) (by decide +kernel) (by omega) ?_
  refine tk_newA (pc := 96) (at_ := .int) (t := 0) (s := 63) (i := 0) (n := 13000) (by decide +kernel) (by decide +kernel) (by decide) (by omega) ((tk_M_ne (by decide)).trans ((tk_M_ne (by decide)).trans ((tk_M_ne (by decide)).trans ((tk_M_ne (by decide)).trans ((tk_M_ne (by decide)).trans ((tk_M_ne (by decide)).trans ((tk_M_ne (by decide)).trans ((tk_M_ne (by decide)).trans ((tk_M_ne (by decide)).trans ((tk_M_ne (by decide)).trans hm63)))))))))) (by simp) (by decide) ?_
  rw [show (13000 : Int).toNat = 13000 from rfl]
  refine ty_putR (pc := 98) (idx := 45) (ci := 13) (f := 17) (by decide +kernel) (by decide +kernel) rfl rfl (tk_p (tk_p (tk_p (tk_p (tk_p (tk_p (tk_p (tk_p (tk_p (tk_p (tk_p hp))))))))))) ?_
  rw [tk_sR]
  refine ty_aload_n (pc := 101) (i := 0) (ks := []) (by decide +kernel) rfl ?_
  refine ty_sipush (pc := 102) (n := 13000) (ks := []) (by decide +kernel) (by omega) ?_
  refine tk_newA (pc := 105) (at_ := .int) (t := 0) (s := 64) (i := 0) (n := 13000) (by decide +kernel) (by decide +kernel) (by decide) (by omega) ((tk_M_ne (by decide)).trans ((tk_M_ne (by decide)).trans ((tk_M_ne (by decide)).trans ((tk_M_ne (by decide)).trans ((tk_M_ne (by decide)).trans ((tk_M_ne (by decide)).trans ((tk_M_ne (by decide)).trans ((tk_M_ne (by decide)).trans ((tk_M_ne (by decide)).trans ((tk_M_ne (by decide)).trans ((tk_M_ne (by decide)).trans hm64))))))))))) (by simp) (by decide) ?_
  rw [show (13000 : Int).toNat = 13000 from rfl]
  refine ty_putR (pc := 107) (idx := 48) (ci := 13) (f := 18) (by decide +kernel) (by decide +kernel) rfl rfl (tk_p (tk_p (tk_p (tk_p (tk_p (tk_p (tk_p (tk_p (tk_p (tk_p (tk_p (tk_p hp)))))))))))) ?_
  rw [tk_sR]
  refine ty_aload_n (pc := 110) (i := 0) (ks := []) (by decide +kernel) rfl ?_
  refine ty_sipush (pc := 111) (n := 13000) (ks := []) (by decide +kernel) (by omega) ?_
  refine tk_newA (pc := 114) (at_ := .int) (t := 0) (s := 65) (i := 0) (n := 13000) (by decide +kernel) (by decide +kernel) (by decide) (by omega) ((tk_M_ne (by decide)).trans ((tk_M_ne (by decide)).trans ((tk_M_ne (by decide)).trans ((tk_M_ne (by decide)).trans ((tk_M_ne (by decide)).trans ((tk_M_ne (by decide)).trans ((tk_M_ne (by decide)).trans ((tk_M_ne (by decide)).trans ((tk_M_ne (by decide)).trans ((tk_M_ne (by decide)).trans ((tk_M_ne (by decide)).trans ((tk_M_ne (by decide)).trans hm65)))))))))))) (by simp) (by decide) ?_
  rw [show (13000 : Int).toNat = 13000 from rfl]
  refine ty_putR (pc := 116) (idx := 51) (ci := 13) (f := 19) (by decide +kernel) (by decide +kernel) rfl rfl (tk_p (tk_p (tk_p (tk_p (tk_p (tk_p (tk_p (tk_p (tk_p (tk_p (tk_p (tk_p (tk_p hp))))))))))))) ?_
  rw [tk_sR]
  refine ty_aload_n (pc := 119) (i := 0) (ks := []) (by decide +kernel) rfl ?_
  refine ty_sipush (pc := 120) (n := 14000) (ks := []) (by decide +kernel) (by omega) ?_
  refine tk_newA (pc := 123) (at_ := .int) (t := 0) (s := 66) (i := 0) (n := 14000) (by decide +kernel) (by decide +kernel) (by decide) (by omega) ((tk_M_ne (by decide)).trans ((tk_M_ne (by decide)).trans ((tk_M_ne (by decide)).trans ((tk_M_ne (by decide)).trans ((tk_M_ne (by decide)).trans ((tk_M_ne (by decide)).trans ((tk_M_ne (by decide)).trans ((tk_M_ne (by decide)).trans ((tk_M_ne (by decide)).trans ((tk_M_ne (by decide)).trans ((tk_M_ne (by decide)).trans ((tk_M_ne (by decide)).trans ((tk_M_ne (by decide)).trans hm66))))))))))))) (by simp) (by decide) ?_
  rw [show (14000 : Int).toNat = 14000 from rfl]
  refine ty_putR (pc := 125) (idx := 54) (ci := 13) (f := 20) (by decide +kernel) (by decide +kernel) rfl rfl (tk_p (tk_p (tk_p (tk_p (tk_p (tk_p (tk_p (tk_p (tk_p (tk_p (tk_p (tk_p (tk_p (tk_p hp)))))))))))))) ?_
  rw [tk_sR]
  refine ty_aload_n (pc := 128) (i := 0) (ks := []) (by decide +kernel) rfl ?_
  refine ty_sipush (pc := 129) (n := 14000) (ks := []) (by decide +kernel) (by omega) ?_
  refine tk_newA (pc := 132) (at_ := .int) (t := 0) (s := 67) (i := 0) (n := 14000) (by decide +kernel) (by decide +kernel) (by decide) (by omega) ((tk_M_ne (by decide)).trans ((tk_M_ne (by decide)).trans ((tk_M_ne (by decide)).trans ((tk_M_ne (by decide)).trans ((tk_M_ne (by decide)).trans ((tk_M_ne (by decide)).trans ((tk_M_ne (by decide)).trans ((tk_M_ne (by decide)).trans ((tk_M_ne (by decide)).trans ((tk_M_ne (by decide)).trans ((tk_M_ne (by decide)).trans ((tk_M_ne (by decide)).trans ((tk_M_ne (by decide)).trans ((tk_M_ne (by decide)).trans hm67)))))))))))))) (by simp) (by decide) ?_
  rw [show (14000 : Int).toNat = 14000 from rfl]
  refine ty_putR (pc := 134) (idx := 57) (ci := 13) (f := 21) (by decide +kernel) (by decide +kernel) rfl rfl (tk_p (tk_p (tk_p (tk_p (tk_p (tk_p (tk_p (tk_p (tk_p (tk_p (tk_p (tk_p (tk_p (tk_p (tk_p hp))))))))))))))) ?_
  rw [tk_sR]
  refine ty_aload_n (pc := 137) (i := 0) (ks := []) (by decide +kernel) rfl ?_
  refine ty_sipush (pc := 138) (n := 14000) (ks := []) (by decide +kernel) (by omega) ?_
  refine tk_newA (pc := 141) (at_ := .int) (t := 0) (s := 68) (i := 0) (n := 14000) (by decide +kernel) (by decide +kernel) (by decide) (by omega) ((tk_M_ne (by decide)).trans ((tk_M_ne (by decide)).trans ((tk_M_ne (by decide)).trans ((tk_M_ne (by decide)).trans ((tk_M_ne (by decide)).trans ((tk_M_ne (by decide)).trans ((tk_M_ne (by decide)).trans ((tk_M_ne (by decide)).trans ((tk_M_ne (by decide)).trans ((tk_M_ne (by decide)).trans ((tk_M_ne (by decide)).trans ((tk_M_ne (by decide)).trans ((tk_M_ne (by decide)).trans ((tk_M_ne (by decide)).trans ((tk_M_ne (by decide)).trans hm68))))))))))))))) (by simp) (by decide) ?_
  rw [show (14000 : Int).toNat = 14000 from rfl]
  refine ty_putR (pc := 143) (idx := 60) (ci := 13) (f := 22) (by decide +kernel) (by decide +kernel) rfl rfl (tk_p (tk_p (tk_p (tk_p (tk_p (tk_p (tk_p (tk_p (tk_p (tk_p (tk_p (tk_p (tk_p (tk_p (tk_p (tk_p hp)))))))))))))))) ?_
  rw [tk_sR]
  refine ty_aload_n (pc := 146) (i := 0) (ks := []) (by decide +kernel) rfl ?_
  refine ty_sipush (pc := 147) (n := 14000) (ks := []) (by decide +kernel) (by omega) ?_
  refine tk_newA (pc := 150) (at_ := .int) (t := 0) (s := 69) (i := 0) (n := 14000) (by decide +kernel) (by decide +kernel) (by decide) (by omega) ((tk_M_ne (by decide)).trans ((tk_M_ne (by decide)).trans ((tk_M_ne (by decide)).trans ((tk_M_ne (by decide)).trans ((tk_M_ne (by decide)).trans ((tk_M_ne (by decide)).trans ((tk_M_ne (by decide)).trans ((tk_M_ne (by decide)).trans ((tk_M_ne (by decide)).trans ((tk_M_ne (by decide)).trans ((tk_M_ne (by decide)).trans ((tk_M_ne (by decide)).trans ((tk_M_ne (by decide)).trans ((tk_M_ne (by decide)).trans ((tk_M_ne (by decide)).trans ((tk_M_ne (by decide)).trans hm69)))))))))))))))) (by simp) (by decide) ?_
  rw [show (14000 : Int).toNat = 14000 from rfl]
  refine ty_putR (pc := 152) (idx := 63) (ci := 13) (f := 23) (by decide +kernel) (by decide +kernel) rfl rfl (tk_p (tk_p (tk_p (tk_p (tk_p (tk_p (tk_p (tk_p (tk_p (tk_p (tk_p (tk_p (tk_p (tk_p (tk_p (tk_p (tk_p hp))))))))))))))))) ?_
  rw [tk_sR]
  refine ty_aload_n (pc := 155) (i := 0) (ks := []) (by decide +kernel) rfl ?_
  refine ty_sipush (pc := 156) (n := 14000) (ks := []) (by decide +kernel) (by omega) ?_
  refine tk_newA (pc := 159) (at_ := .int) (t := 0) (s := 70) (i := 0) (n := 14000) (by decide +kernel) (by decide +kernel) (by decide) (by omega) ((tk_M_ne (by decide)).trans ((tk_M_ne (by decide)).trans ((tk_M_ne (by decide)).trans ((tk_M_ne (by decide)).trans ((tk_M_ne (by decide)).trans ((tk_M_ne (by decide)).trans ((tk_M_ne (by decide)).trans ((tk_M_ne (by decide)).trans ((tk_M_ne (by decide)).trans ((tk_M_ne (by decide)).trans ((tk_M_ne (by decide)).trans ((tk_M_ne (by decide)).trans ((tk_M_ne (by decide)).trans ((tk_M_ne (by decide)).trans ((tk_M_ne (by decide)).trans ((tk_M_ne (by decide)).trans ((tk_M_ne (by decide)).trans hm70))))))))))))))))) (by simp) (by decide) ?_
  rw [show (14000 : Int).toNat = 14000 from rfl]
  refine ty_putR (pc := 161) (idx := 66) (ci := 13) (f := 24) (by decide +kernel) (by decide +kernel) rfl rfl (tk_p (tk_p (tk_p (tk_p (tk_p (tk_p (tk_p (tk_p (tk_p (tk_p (tk_p (tk_p (tk_p (tk_p (tk_p (tk_p (tk_p (tk_p hp)))))))))))))))))) ?_
  rw [tk_sR]
  refine ty_aload_n (pc := 164) (i := 0) (ks := []) (by decide +kernel) rfl ?_
  refine ty_sipush (pc := 165) (n := 6000) (ks := []) (by decide +kernel) (by omega) ?_
  refine tk_newA (pc := 168) (at_ := .int) (t := 0) (s := 71) (i := 0) (n := 6000) (by decide +kernel) (by decide +kernel) (by decide) (by omega) ((tk_M_ne (by decide)).trans ((tk_M_ne (by decide)).trans ((tk_M_ne (by decide)).trans ((tk_M_ne (by decide)).trans ((tk_M_ne (by decide)).trans ((tk_M_ne (by decide)).trans ((tk_M_ne (by decide)).trans ((tk_M_ne (by decide)).trans ((tk_M_ne (by decide)).trans ((tk_M_ne (by decide)).trans ((tk_M_ne (by decide)).trans ((tk_M_ne (by decide)).trans ((tk_M_ne (by decide)).trans ((tk_M_ne (by decide)).trans ((tk_M_ne (by decide)).trans ((tk_M_ne (by decide)).trans ((tk_M_ne (by decide)).trans ((tk_M_ne (by decide)).trans hm71)))))))))))))))))) (by simp) (by decide) ?_
  rw [show (6000 : Int).toNat = 6000 from rfl]
  refine ty_putR (pc := 170) (idx := 69) (ci := 13) (f := 41) (by decide +kernel) (by decide +kernel) rfl rfl (tk_p (tk_p (tk_p (tk_p (tk_p (tk_p (tk_p (tk_p (tk_p (tk_p (tk_p (tk_p (tk_p (tk_p (tk_p (tk_p (tk_p (tk_p (tk_p hp))))))))))))))))))) ?_
  rw [tk_sR]
  refine ty_aload_n (pc := 173) (i := 0) (ks := []) (by decide +kernel) rfl ?_
  refine ty_sipush (pc := 174) (n := 6000) (ks := []) (by decide +kernel) (by omega) ?_
  refine tk_newA (pc := 177) (at_ := .int) (t := 0) (s := 72) (i := 0) (n := 6000) (by decide +kernel) (by decide +kernel) (by decide) (by omega) ((tk_M_ne (by decide)).trans ((tk_M_ne (by decide)).trans ((tk_M_ne (by decide)).trans ((tk_M_ne (by decide)).trans ((tk_M_ne (by decide)).trans ((tk_M_ne (by decide)).trans ((tk_M_ne (by decide)).trans ((tk_M_ne (by decide)).trans ((tk_M_ne (by decide)).trans ((tk_M_ne (by decide)).trans ((tk_M_ne (by decide)).trans ((tk_M_ne (by decide)).trans ((tk_M_ne (by decide)).trans ((tk_M_ne (by decide)).trans ((tk_M_ne (by decide)).trans ((tk_M_ne (by decide)).trans ((tk_M_ne (by decide)).trans ((tk_M_ne (by decide)).trans ((tk_M_ne (by decide)).trans hm72))))))))))))))))))) (by simp) (by decide) ?_
  rw [show (6000 : Int).toNat = 6000 from rfl]
  refine ty_putR (pc := 179) (idx := 72) (ci := 13) (f := 42) (by decide +kernel) (by decide +kernel) rfl rfl (tk_p (tk_p (tk_p (tk_p (tk_p (tk_p (tk_p (tk_p (tk_p (tk_p (tk_p (tk_p (tk_p (tk_p (tk_p (tk_p (tk_p (tk_p (tk_p (tk_p hp)))))))))))))))))))) ?_
  rw [tk_sR]
  refine ty_aload_n (pc := 182) (i := 0) (ks := []) (by decide +kernel) rfl ?_
  refine ty_sipush (pc := 183) (n := 1200) (ks := []) (by decide +kernel) (by omega) ?_
  refine tk_newA (pc := 186) (at_ := .int) (t := 0) (s := 73) (i := 0) (n := 1200) (by decide +kernel) (by decide +kernel) (by decide) (by omega) ((tk_M_ne (by decide)).trans ((tk_M_ne (by decide)).trans ((tk_M_ne (by decide)).trans ((tk_M_ne (by decide)).trans ((tk_M_ne (by decide)).trans ((tk_M_ne (by decide)).trans ((tk_M_ne (by decide)).trans ((tk_M_ne (by decide)).trans ((tk_M_ne (by decide)).trans ((tk_M_ne (by decide)).trans ((tk_M_ne (by decide)).trans ((tk_M_ne (by decide)).trans ((tk_M_ne (by decide)).trans ((tk_M_ne (by decide)).trans ((tk_M_ne (by decide)).trans ((tk_M_ne (by decide)).trans ((tk_M_ne (by decide)).trans ((tk_M_ne (by decide)).trans ((tk_M_ne (by decide)).trans ((tk_M_ne (by decide)).trans hm73)))))))))))))))))))) (by simp) (by decide) ?_
  rw [show (1200 : Int).toNat = 1200 from rfl]
  refine ty_putR (pc := 188) (idx := 75) (ci := 13) (f := 43) (by decide +kernel) (by decide +kernel) rfl rfl (tk_p (tk_p (tk_p (tk_p (tk_p (tk_p (tk_p (tk_p (tk_p (tk_p (tk_p (tk_p (tk_p (tk_p (tk_p (tk_p (tk_p (tk_p (tk_p (tk_p (tk_p hp))))))))))))))))))))) ?_
  rw [tk_sR]
  refine ty_aload_n (pc := 191) (i := 0) (ks := []) (by decide +kernel) rfl ?_
  refine ty_sipush (pc := 192) (n := 1200) (ks := []) (by decide +kernel) (by omega) ?_
  refine tk_newA (pc := 195) (at_ := .int) (t := 0) (s := 74) (i := 0) (n := 1200) (by decide +kernel) (by decide +kernel) (by decide) (by omega) ((tk_M_ne (by decide)).trans ((tk_M_ne (by decide)).trans ((tk_M_ne (by decide)).trans ((tk_M_ne (by decide)).trans ((tk_M_ne (by decide)).trans ((tk_M_ne (by decide)).trans ((tk_M_ne (by decide)).trans ((tk_M_ne (by decide)).trans ((tk_M_ne (by decide)).trans ((tk_M_ne (by decide)).trans ((tk_M_ne (by decide)).trans ((tk_M_ne (by decide)).trans ((tk_M_ne (by decide)).trans ((tk_M_ne (by decide)).trans ((tk_M_ne (by decide)).trans ((tk_M_ne (by decide)).trans ((tk_M_ne (by decide)).trans ((tk_M_ne (by decide)).trans ((tk_M_ne (by decide)).trans ((tk_M_ne (by decide)).trans ((tk_M_ne (by decide)).trans hm74))))))))))))))))))))) (by simp) (by decide) ?_
  rw [show (1200 : Int).toNat = 1200 from rfl]
  refine ty_putR (pc := 197) (idx := 78) (ci := 13) (f := 44) (by decide +kernel) (by decide +kernel) rfl rfl (tk_p (tk_p (tk_p (tk_p (tk_p (tk_p (tk_p (tk_p (tk_p (tk_p (tk_p (tk_p (tk_p (tk_p (tk_p (tk_p (tk_p (tk_p (tk_p (tk_p (tk_p (tk_p hp)))))))))))))))))))))) ?_
  rw [tk_sR]
  refine ty_aload_n (pc := 200) (i := 0) (ks := []) (by decide +kernel) rfl ?_
  refine ty_sipush (pc := 201) (n := 600) (ks := []) (by decide +kernel) (by omega) ?_
  refine tk_newA (pc := 204) (at_ := .int) (t := 0) (s := 75) (i := 0) (n := 600) (by decide +kernel) (by decide +kernel) (by decide) (by omega) ((tk_M_ne (by decide)).trans ((tk_M_ne (by decide)).trans ((tk_M_ne (by decide)).trans ((tk_M_ne (by decide)).trans ((tk_M_ne (by decide)).trans ((tk_M_ne (by decide)).trans ((tk_M_ne (by decide)).trans ((tk_M_ne (by decide)).trans ((tk_M_ne (by decide)).trans ((tk_M_ne (by decide)).trans ((tk_M_ne (by decide)).trans ((tk_M_ne (by decide)).trans ((tk_M_ne (by decide)).trans ((tk_M_ne (by decide)).trans ((tk_M_ne (by decide)).trans ((tk_M_ne (by decide)).trans ((tk_M_ne (by decide)).trans ((tk_M_ne (by decide)).trans ((tk_M_ne (by decide)).trans ((tk_M_ne (by decide)).trans ((tk_M_ne (by decide)).trans ((tk_M_ne (by decide)).trans hm75)))))))))))))))))))))) (by simp) (by decide) ?_
  rw [show (600 : Int).toNat = 600 from rfl]
  refine ty_putR (pc := 206) (idx := 81) (ci := 13) (f := 45) (by decide +kernel) (by decide +kernel) rfl rfl (tk_p (tk_p (tk_p (tk_p (tk_p (tk_p (tk_p (tk_p (tk_p (tk_p (tk_p (tk_p (tk_p (tk_p (tk_p (tk_p (tk_p (tk_p (tk_p (tk_p (tk_p (tk_p (tk_p hp))))))))))))))))))))))) ?_
  rw [tk_sR]
  refine ty_aload_n (pc := 209) (i := 0) (ks := []) (by decide +kernel) rfl ?_
  refine ty_sipush (pc := 210) (n := 600) (ks := []) (by decide +kernel) (by omega) ?_
  refine tk_newA (pc := 213) (at_ := .int) (t := 0) (s := 76) (i := 0) (n := 600) (by decide +kernel) (by decide +kernel) (by decide) (by omega) ((tk_M_ne (by decide)).trans ((tk_M_ne (by decide)).trans ((tk_M_ne (by decide)).trans ((tk_M_ne (by decide)).trans ((tk_M_ne (by decide)).trans ((tk_M_ne (by decide)).trans ((tk_M_ne (by decide)).trans ((tk_M_ne (by decide)).trans ((tk_M_ne (by decide)).trans ((tk_M_ne (by decide)).trans ((tk_M_ne (by decide)).trans ((tk_M_ne (by decide)).trans ((tk_M_ne (by decide)).trans ((tk_M_ne (by decide)).trans ((tk_M_ne (by decide)).trans ((tk_M_ne (by decide)).trans ((tk_M_ne (by decide)).trans ((tk_M_ne (by decide)).trans ((tk_M_ne (by decide)).trans ((tk_M_ne (by decide)).trans ((tk_M_ne (by decide)).trans ((tk_M_ne (by decide)).trans ((tk_M_ne (by decide)).trans hm76))))))))))))))))))))))) (by simp) (by decide) ?_
  rw [show (600 : Int).toNat = 600 from rfl]
  refine ty_putR (pc := 215) (idx := 84) (ci := 13) (f := 46) (by decide +kernel) (by decide +kernel) rfl rfl (tk_p (tk_p (tk_p (tk_p (tk_p (tk_p (tk_p (tk_p (tk_p (tk_p (tk_p (tk_p (tk_p (tk_p (tk_p (tk_p (tk_p (tk_p (tk_p (tk_p (tk_p (tk_p (tk_p (tk_p hp)))))))))))))))))))))))) ?_
  rw [tk_sR]
  refine ty_aload_n (pc := 218) (i := 0) (ks := []) (by decide +kernel) rfl ?_
  refine ty_sipush (pc := 219) (n := 600) (ks := []) (by decide +kernel) (by omega) ?_
  refine tk_newA (pc := 222) (at_ := .int) (t := 0) (s := 77) (i := 0) (n := 600) (by decide +kernel) (by decide +kernel) (by decide) (by omega) ((tk_M_ne (by decide)).trans ((tk_M_ne (by decide)).trans ((tk_M_ne (by decide)).trans ((tk_M_ne (by decide)).trans ((tk_M_ne (by decide)).trans ((tk_M_ne (by decide)).trans ((tk_M_ne (by decide)).trans ((tk_M_ne (by decide)).trans ((tk_M_ne (by decide)).trans ((tk_M_ne (by decide)).trans ((tk_M_ne (by decide)).trans ((tk_M_ne (by decide)).trans ((tk_M_ne (by decide)).trans ((tk_M_ne (by decide)).trans ((tk_M_ne (by decide)).trans ((tk_M_ne (by decide)).trans ((tk_M_ne (by decide)).trans ((tk_M_ne (by decide)).trans ((tk_M_ne (by decide)).trans ((tk_M_ne (by decide)).trans ((tk_M_ne (by decide)).trans ((tk_M_ne (by decide)).trans ((tk_M_ne (by decide)).trans ((tk_M_ne (by decide)).trans hm77)))))))))))))))))))))))) (by simp) (by decide) ?_
  rw [show (600 : Int).toNat = 600 from rfl]
  refine ty_putR (pc := 224) (idx := 87) (ci := 13) (f := 47) (by decide +kernel) (by decide +kernel) rfl rfl (tk_p (tk_p (tk_p (tk_p (tk_p (tk_p (tk_p (tk_p (tk_p (tk_p (tk_p (tk_p (tk_p (tk_p (tk_p (tk_p (tk_p (tk_p (tk_p (tk_p (tk_p (tk_p (tk_p (tk_p (tk_p hp))))))))))))))))))))))))) ?_
  rw [tk_sR]
  refine ty_aload_n (pc := 227) (i := 0) (ks := []) (by decide +kernel) rfl ?_
  refine ty_sipush (pc := 228) (n := 2200) (ks := []) (by decide +kernel) (by omega) ?_
  refine tk_newA (pc := 231) (at_ := .int) (t := 0) (s := 78) (i := 0) (n := 2200) (by decide +kernel) (by decide +kernel) (by decide) (by omega) ((tk_M_ne (by decide)).trans ((tk_M_ne (by decide)).trans ((tk_M_ne (by decide)).trans ((tk_M_ne (by decide)).trans ((tk_M_ne (by decide)).trans ((tk_M_ne (by decide)).trans ((tk_M_ne (by decide)).trans ((tk_M_ne (by decide)).trans ((tk_M_ne (by decide)).trans ((tk_M_ne (by decide)).trans ((tk_M_ne (by decide)).trans ((tk_M_ne (by decide)).trans ((tk_M_ne (by decide)).trans ((tk_M_ne (by decide)).trans ((tk_M_ne (by decide)).trans ((tk_M_ne (by decide)).trans ((tk_M_ne (by decide)).trans ((tk_M_ne (by decide)).trans ((tk_M_ne (by decide)).trans ((tk_M_ne (by decide)).trans ((tk_M_ne (by decide)).trans ((tk_M_ne (by decide)).trans ((tk_M_ne (by decide)).trans ((tk_M_ne (by decide)).trans ((tk_M_ne (by decide)).trans hm78))))))))))))))))))))))))) (by simp) (by decide) ?_
  rw [show (2200 : Int).toNat = 2200 from rfl]
  refine ty_putR (pc := 233) (idx := 90) (ci := 13) (f := 48) (by decide +kernel) (by decide +kernel) rfl rfl (tk_p (tk_p (tk_p (tk_p (tk_p (tk_p (tk_p (tk_p (tk_p (tk_p (tk_p (tk_p (tk_p (tk_p (tk_p (tk_p (tk_p (tk_p (tk_p (tk_p (tk_p (tk_p (tk_p (tk_p (tk_p (tk_p hp)))))))))))))))))))))))))) ?_
  rw [tk_sR]
  refine ty_aload_n (pc := 236) (i := 0) (ks := []) (by decide +kernel) rfl ?_
  refine ty_sipush (pc := 237) (n := 2200) (ks := []) (by decide +kernel) (by omega) ?_
  refine tk_newA (pc := 240) (at_ := .int) (t := 0) (s := 79) (i := 0) (n := 2200) (by decide +kernel) (by decide +kernel) (by decide) (by omega) ((tk_M_ne (by decide)).trans ((tk_M_ne (by decide)).trans ((tk_M_ne (by decide)).trans ((tk_M_ne (by decide)).trans ((tk_M_ne (by decide)).trans ((tk_M_ne (by decide)).trans ((tk_M_ne (by decide)).trans ((tk_M_ne (by decide)).trans ((tk_M_ne (by decide)).trans ((tk_M_ne (by decide)).trans ((tk_M_ne (by decide)).trans ((tk_M_ne (by decide)).trans ((tk_M_ne (by decide)).trans ((tk_M_ne (by decide)).trans ((tk_M_ne (by decide)).trans ((tk_M_ne (by decide)).trans ((tk_M_ne (by decide)).trans ((tk_M_ne (by decide)).trans ((tk_M_ne (by decide)).trans ((tk_M_ne (by decide)).trans ((tk_M_ne (by decide)).trans ((tk_M_ne (by decide)).trans ((tk_M_ne (by decide)).trans ((tk_M_ne (by decide)).trans ((tk_M_ne (by decide)).trans ((tk_M_ne (by decide)).trans hm79)))))))))))))))))))))))))) (by simp) (by decide) ?_
  rw [show (2200 : Int).toNat = 2200 from rfl]
  refine ty_putR (pc := 242) (idx := 93) (ci := 13) (f := 49) (by decide +kernel) (by decide +kernel) rfl rfl (tk_p (tk_p (tk_p (tk_p (tk_p (tk_p (tk_p (tk_p (tk_p (tk_p (tk_p (tk_p (tk_p (tk_p (tk_p (tk_p (tk_p (tk_p (tk_p (tk_p (tk_p (tk_p (tk_p (tk_p (tk_p (tk_p (tk_p hp))))))))))))))))))))))))))) ?_
  rw [tk_sR]
  refine ty_aload_n (pc := 245) (i := 0) (ks := []) (by decide +kernel) rfl ?_
  refine ty_sipush (pc := 246) (n := 600) (ks := []) (by decide +kernel) (by omega) ?_
  refine tk_newA (pc := 249) (at_ := .int) (t := 0) (s := 80) (i := 0) (n := 600) (by decide +kernel) (by decide +kernel) (by decide) (by omega) ((tk_M_ne (by decide)).trans ((tk_M_ne (by decide)).trans ((tk_M_ne (by decide)).trans ((tk_M_ne (by decide)).trans ((tk_M_ne (by decide)).trans ((tk_M_ne (by decide)).trans ((tk_M_ne (by decide)).trans ((tk_M_ne (by decide)).trans ((tk_M_ne (by decide)).trans ((tk_M_ne (by decide)).trans ((tk_M_ne (by decide)).trans ((tk_M_ne (by decide)).trans ((tk_M_ne (by decide)).trans ((tk_M_ne (by decide)).trans ((tk_M_ne (by decide)).trans ((tk_M_ne (by decide)).trans ((tk_M_ne (by decide)).trans ((tk_M_ne (by decide)).trans ((tk_M_ne (by decide)).trans ((tk_M_ne (by decide)).trans ((tk_M_ne (by decide)).trans ((tk_M_ne (by decide)).trans ((tk_M_ne (by decide)).trans ((tk_M_ne (by decide)).trans ((tk_M_ne (by decide)).trans ((tk_M_ne (by decide)).trans ((tk_M_ne (by decide)).trans hm80))))))))))))))))))))))))))) (by simp) (by decide) ?_
  rw [show (600 : Int).toNat = 600 from rfl]
  refine ty_putR (pc := 251) (idx := 96) (ci := 13) (f := 50) (by decide +kernel) (by decide +kernel) rfl rfl (tk_p (tk_p (tk_p (tk_p (tk_p (tk_p (tk_p (tk_p (tk_p (tk_p (tk_p (tk_p (tk_p (tk_p (tk_p (tk_p (tk_p (tk_p (tk_p (tk_p (tk_p (tk_p (tk_p (tk_p (tk_p (tk_p (tk_p (tk_p hp)))))))))))))))))))))))))))) ?_
  rw [tk_sR]
  refine ty_aload_n (pc := 254) (i := 0) (ks := []) (by decide +kernel) rfl ?_
  refine ty_sipush (pc := 255) (n := 1200) (ks := []) (by decide +kernel) (by omega) ?_
  refine tk_newA (pc := 258) (at_ := .int) (t := 0) (s := 81) (i := 0) (n := 1200) (by decide +kernel) (by decide +kernel) (by decide) (by omega) ((tk_M_ne (by decide)).trans ((tk_M_ne (by decide)).trans ((tk_M_ne (by decide)).trans ((tk_M_ne (by decide)).trans ((tk_M_ne (by decide)).trans ((tk_M_ne (by decide)).trans ((tk_M_ne (by decide)).trans ((tk_M_ne (by decide)).trans ((tk_M_ne (by decide)).trans ((tk_M_ne (by decide)).trans ((tk_M_ne (by decide)).trans ((tk_M_ne (by decide)).trans ((tk_M_ne (by decide)).trans ((tk_M_ne (by decide)).trans ((tk_M_ne (by decide)).trans ((tk_M_ne (by decide)).trans ((tk_M_ne (by decide)).trans ((tk_M_ne (by decide)).trans ((tk_M_ne (by decide)).trans ((tk_M_ne (by decide)).trans ((tk_M_ne (by decide)).trans ((tk_M_ne (by decide)).trans ((tk_M_ne (by decide)).trans ((tk_M_ne (by decide)).trans ((tk_M_ne (by decide)).trans ((tk_M_ne (by decide)).trans ((tk_M_ne (by decide)).trans ((tk_M_ne (by decide)).trans hm81)))))))))))))))))))))))))))) (by simp) (by decide) ?_
  rw [show (1200 : Int).toNat = 1200 from rfl]
  refine ty_putR (pc := 260) (idx := 99) (ci := 13) (f := 51) (by decide +kernel) (by decide +kernel) rfl rfl (tk_p (tk_p (tk_p (tk_p (tk_p (tk_p (tk_p (tk_p (tk_p (tk_p (tk_p (tk_p (tk_p (tk_p (tk_p (tk_p (tk_p (tk_p (tk_p (tk_p (tk_p (tk_p (tk_p (tk_p (tk_p (tk_p (tk_p (tk_p (tk_p hp))))))))))))))))))))))))))))) ?_
  rw [tk_sR]
  refine ty_aload_n (pc := 263) (i := 0) (ks := []) (by decide +kernel) rfl ?_
  refine ty_sipush (pc := 264) (n := 600) (ks := []) (by decide +kernel) (by omega) ?_
  refine tk_newA (pc := 267) (at_ := .int) (t := 0) (s := 82) (i := 0) (n := 600) (by decide +kernel) (by decide +kernel) (by decide) (by omega) ((tk_M_ne (by decide)).trans ((tk_M_ne (by decide)).trans ((tk_M_ne (by decide)).trans ((tk_M_ne (by decide)).trans ((tk_M_ne (by decide)).trans ((tk_M_ne (by decide)).trans ((tk_M_ne (by decide)).trans ((tk_M_ne (by decide)).trans ((tk_M_ne (by decide)).trans ((tk_M_ne (by decide)).trans ((tk_M_ne (by decide)).trans ((tk_M_ne (by decide)).trans ((tk_M_ne (by decide)).trans ((tk_M_ne (by decide)).trans ((tk_M_ne (by decide)).trans ((tk_M_ne (by decide)).trans ((tk_M_ne (by decide)).trans ((tk_M_ne (by decide)).trans ((tk_M_ne (by decide)).trans ((tk_M_ne (by decide)).trans ((tk_M_ne (by decide)).trans ((tk_M_ne (by decide)).trans ((tk_M_ne (by decide)).trans ((tk_M_ne (by decide)).trans ((tk_M_ne (by decide)).trans ((tk_M_ne (by decide)).trans ((tk_M_ne (by decide)).trans ((tk_M_ne (by decide)).trans ((tk_M_ne (by decide)).trans hm82))))))))))))))))))))))))))))) (by simp) (by decide) ?_
  rw [show (600 : Int).toNat = 600 from rfl]
  refine ty_putR (pc := 269) (idx := 102) (ci := 13) (f := 52) (by decide +kernel) (by decide +kernel) rfl rfl (tk_p (tk_p (tk_p (tk_p (tk_p (tk_p (tk_p (tk_p (tk_p (tk_p (tk_p (tk_p (tk_p (tk_p (tk_p (tk_p (tk_p (tk_p (tk_p (tk_p (tk_p (tk_p (tk_p (tk_p (tk_p (tk_p (tk_p (tk_p (tk_p (tk_p hp)))))))))))))))))))))))))))))) ?_
  rw [tk_sR]
  refine ty_aload_n (pc := 272) (i := 0) (ks := []) (by decide +kernel) rfl ?_
  refine ty_sipush (pc := 273) (n := 600) (ks := []) (by decide +kernel) (by omega) ?_
  refine tk_newA (pc := 276) (at_ := .int) (t := 0) (s := 83) (i := 0) (n := 600) (by decide +kernel) (by decide +kernel) (by decide) (by omega) ((tk_M_ne (by decide)).trans ((tk_M_ne (by decide)).trans ((tk_M_ne (by decide)).trans ((tk_M_ne (by decide)).trans ((tk_M_ne (by decide)).trans ((tk_M_ne (by decide)).trans ((tk_M_ne (by decide)).trans ((tk_M_ne (by decide)).trans ((tk_M_ne (by decide)).trans ((tk_M_ne (by decide)).trans ((tk_M_ne (by decide)).trans ((tk_M_ne (by decide)).trans ((tk_M_ne (by decide)).trans ((tk_M_ne (by decide)).trans ((tk_M_ne (by decide)).trans ((tk_M_ne (by decide)).trans ((tk_M_ne (by decide)).trans ((tk_M_ne (by decide)).trans ((tk_M_ne (by decide)).trans ((tk_M_ne (by decide)).trans ((tk_M_ne (by decide)).trans ((tk_M_ne (by decide)).trans ((tk_M_ne (by decide)).trans ((tk_M_ne (by decide)).trans ((tk_M_ne (by decide)).trans ((tk_M_ne (by decide)).trans ((tk_M_ne (by decide)).trans ((tk_M_ne (by decide)).trans ((tk_M_ne (by decide)).trans ((tk_M_ne (by decide)).trans hm83)))))))))))))))))))))))))))))) (by simp) (by decide) ?_
  rw [show (600 : Int).toNat = 600 from rfl]
  refine ty_putR (pc := 278) (idx := 105) (ci := 13) (f := 53) (by decide +kernel) (by decide +kernel) rfl rfl (tk_p (tk_p (tk_p (tk_p (tk_p (tk_p (tk_p (tk_p (tk_p (tk_p (tk_p (tk_p (tk_p (tk_p (tk_p (tk_p (tk_p (tk_p (tk_p (tk_p (tk_p (tk_p (tk_p (tk_p (tk_p (tk_p (tk_p (tk_p (tk_p (tk_p (tk_p hp))))))))))))))))))))))))))))))) ?_
  rw [tk_sR]
  refine ty_aload_n (pc := 281) (i := 0) (ks := []) (by decide +kernel) rfl ?_
  refine ty_sipush (pc := 282) (n := 600) (ks := []) (by decide +kernel) (by omega) ?_
  refine tk_newA (pc := 285) (at_ := .int) (t := 0) (s := 84) (i := 0) (n := 600) (by decide +kernel) (by decide +kernel) (by decide) (by omega) ((tk_M_ne (by decide)).trans ((tk_M_ne (by decide)).trans ((tk_M_ne (by decide)).trans ((tk_M_ne (by decide)).trans ((tk_M_ne (by decide)).trans ((tk_M_ne (by decide)).trans ((tk_M_ne (by decide)).trans ((tk_M_ne (by decide)).trans ((tk_M_ne (by decide)).trans ((tk_M_ne (by decide)).trans ((tk_M_ne (by decide)).trans ((tk_M_ne (by decide)).trans ((tk_M_ne (by decide)).trans ((tk_M_ne (by decide)).trans ((tk_M_ne (by decide)).trans ((tk_M_ne (by decide)).trans ((tk_M_ne (by decide)).trans ((tk_M_ne (by decide)).trans ((tk_M_ne (by decide)).trans ((tk_M_ne (by decide)).trans ((tk_M_ne (by decide)).trans ((tk_M_ne (by decide)).trans ((tk_M_ne (by decide)).trans ((tk_M_ne (by decide)).trans ((tk_M_ne (by decide)).trans ((tk_M_ne (by decide)).trans ((tk_M_ne (by decide)).trans ((tk_M_ne (by decide)).trans ((tk_M_ne (by decide)).trans ((tk_M_ne (by decide)).trans ((tk_M_ne (by decide)).trans hm84))))))))))))))))))))))))))))))) (by simp) (by decide) ?_
  rw [show (600 : Int).toNat = 600 from rfl]
  refine ty_putR (pc := 287) (idx := 108) (ci := 13) (f := 54) (by decide +kernel) (by decide +kernel) rfl rfl (tk_p (tk_p (tk_p (tk_p (tk_p (tk_p (tk_p (tk_p (tk_p (tk_p (tk_p (tk_p (tk_p (tk_p (tk_p (tk_p (tk_p (tk_p (tk_p (tk_p (tk_p (tk_p (tk_p (tk_p (tk_p (tk_p (tk_p (tk_p (tk_p (tk_p (tk_p (tk_p hp)))))))))))))))))))))))))))))))) ?_
  rw [tk_sR]
  refine ty_aload_n (pc := 290) (i := 0) (ks := []) (by decide +kernel) rfl ?_
  refine ty_sipush (pc := 291) (n := 600) (ks := []) (by decide +kernel) (by omega) ?_
  refine tk_newA (pc := 294) (at_ := .int) (t := 0) (s := 85) (i := 0) (n := 600) (by decide +kernel) (by decide +kernel) (by decide) (by omega) ((tk_M_ne (by decide)).trans ((tk_M_ne (by decide)).trans ((tk_M_ne (by decide)).trans ((tk_M_ne (by decide)).trans ((tk_M_ne (by decide)).trans ((tk_M_ne (by decide)).trans ((tk_M_ne (by decide)).trans ((tk_M_ne (by decide)).trans ((tk_M_ne (by decide)).trans ((tk_M_ne (by decide)).trans ((tk_M_ne (by decide)).trans ((tk_M_ne (by decide)).trans ((tk_M_ne (by decide)).trans ((tk_M_ne (by decide)).trans ((tk_M_ne (by decide)).trans ((tk_M_ne (by decide)).trans ((tk_M_ne (by decide)).trans ((tk_M_ne (by decide)).trans ((tk_M_ne (by decide)).trans ((tk_M_ne (by decide)).trans ((tk_M_ne (by decide)).trans ((tk_M_ne (by decide)).trans ((tk_M_ne (by decide)).trans ((tk_M_ne (by decide)).trans ((tk_M_ne (by decide)).trans ((tk_M_ne (by decide)).trans ((tk_M_ne (by decide)).trans ((tk_M_ne (by decide)).trans ((tk_M_ne (by decide)).trans ((tk_M_ne (by decide)).trans ((tk_M_ne (by decide)).trans ((tk_M_ne (by decide)).trans hm85)))))))))))))))))))))))))))))))) (by simp) (by decide) ?_
  rw [show (600 : Int).toNat = 600 from rfl]
  refine ty_putR (pc := 296) (idx := 111) (ci := 13) (f := 55) (by decide +kernel) (by decide +kernel) rfl rfl (tk_p (tk_p (tk_p (tk_p (tk_p (tk_p (tk_p (tk_p (tk_p (tk_p (tk_p (tk_p (tk_p (tk_p (tk_p (tk_p (tk_p (tk_p (tk_p (tk_p (tk_p (tk_p (tk_p (tk_p (tk_p (tk_p (tk_p (tk_p (tk_p (tk_p (tk_p (tk_p (tk_p hp))))))))))))))))))))))))))))))))) ?_
  rw [tk_sR]
  refine ty_aload_n (pc := 299) (i := 0) (ks := []) (by decide +kernel) rfl ?_
  refine ty_sipush (pc := 300) (n := 600) (ks := []) (by decide +kernel) (by omega) ?_
  refine tk_newA (pc := 303) (at_ := .int) (t := 0) (s := 86) (i := 0) (n := 600) (by decide +kernel) (by decide +kernel) (by decide) (by omega) ((tk_M_ne (by decide)).trans ((tk_M_ne (by decide)).trans ((tk_M_ne (by decide)).trans ((tk_M_ne (by decide)).trans ((tk_M_ne (by decide)).trans ((tk_M_ne (by decide)).trans ((tk_M_ne (by decide)).trans ((tk_M_ne (by decide)).trans ((tk_M_ne (by decide)).trans ((tk_M_ne (by decide)).trans ((tk_M_ne (by decide)).trans ((tk_M_ne (by decide)).trans ((tk_M_ne (by decide)).trans ((tk_M_ne (by decide)).trans ((tk_M_ne (by decide)).trans ((tk_M_ne (by decide)).trans ((tk_M_ne (by decide)).trans ((tk_M_ne (by decide)).trans ((tk_M_ne (by decide)).trans ((tk_M_ne (by decide)).trans ((tk_M_ne (by decide)).trans ((tk_M_ne (by decide)).trans ((tk_M_ne (by decide)).trans ((tk_M_ne (by decide)).trans ((tk_M_ne (by decide)).trans ((tk_M_ne (by decide)).trans ((tk_M_ne (by decide)).trans ((tk_M_ne (by decide)).trans ((tk_M_ne (by decide)).trans ((tk_M_ne (by decide)).trans ((tk_M_ne (by decide)).trans ((tk_M_ne (by decide)).trans ((tk_M_ne (by decide)).trans hm86))))))))))))))))))))))))))))))))) (by simp) (by decide) ?_
  rw [show (600 : Int).toNat = 600 from rfl]
  refine ty_putR (pc := 305) (idx := 114) (ci := 13) (f := 56) (by decide +kernel) (by decide +kernel) rfl rfl (tk_p (tk_p (tk_p (tk_p (tk_p (tk_p (tk_p (tk_p (tk_p (tk_p (tk_p (tk_p (tk_p (tk_p (tk_p (tk_p (tk_p (tk_p (tk_p (tk_p (tk_p (tk_p (tk_p (tk_p (tk_p (tk_p (tk_p (tk_p (tk_p (tk_p (tk_p (tk_p (tk_p (tk_p hp)))))))))))))))))))))))))))))))))) ?_
  rw [tk_sR]
  refine ty_aload_n (pc := 308) (i := 0) (ks := []) (by decide +kernel) rfl ?_
  refine ty_sipush (pc := 309) (n := 600) (ks := []) (by decide +kernel) (by omega) ?_
  refine tk_newA (pc := 312) (at_ := .int) (t := 0) (s := 87) (i := 0) (n := 600) (by decide +kernel) (by decide +kernel) (by decide) (by omega) ((tk_M_ne (by decide)).trans ((tk_M_ne (by decide)).trans ((tk_M_ne (by decide)).trans ((tk_M_ne (by decide)).trans ((tk_M_ne (by decide)).trans ((tk_M_ne (by decide)).trans ((tk_M_ne (by decide)).trans ((tk_M_ne (by decide)).trans ((tk_M_ne (by decide)).trans ((tk_M_ne (by decide)).trans ((tk_M_ne (by decide)).trans ((tk_M_ne (by decide)).trans ((tk_M_ne (by decide)).trans ((tk_M_ne (by decide)).trans ((tk_M_ne (by decide)).trans ((tk_M_ne (by decide)).trans ((tk_M_ne (by decide)).trans ((tk_M_ne (by decide)).trans ((tk_M_ne (by decide)).trans ((tk_M_ne (by decide)).trans ((tk_M_ne (by decide)).trans ((tk_M_ne (by decide)).trans ((tk_M_ne (by decide)).trans ((tk_M_ne (by decide)).trans ((tk_M_ne (by decide)).trans ((tk_M_ne (by decide)).trans ((tk_M_ne (by decide)).trans ((tk_M_ne (by decide)).trans ((tk_M_ne (by decide)).trans ((tk_M_ne (by decide)).trans ((tk_M_ne (by decide)).trans ((tk_M_ne (by decide)).trans ((tk_M_ne (by decide)).trans ((tk_M_ne (by decide)).trans hm87)))))))))))))))))))))))))))))))))) (by simp) (by decide) ?_
  rw [show (600 : Int).toNat = 600 from rfl]
  refine ty_putR (pc := 314) (idx := 117) (ci := 13) (f := 57) (by decide +kernel) (by decide +kernel) rfl rfl (tk_p (tk_p (tk_p (tk_p (tk_p (tk_p (tk_p (tk_p (tk_p (tk_p (tk_p (tk_p (tk_p (tk_p (tk_p (tk_p (tk_p (tk_p (tk_p (tk_p (tk_p (tk_p (tk_p (tk_p (tk_p (tk_p (tk_p (tk_p (tk_p (tk_p (tk_p (tk_p (tk_p (tk_p (tk_p hp))))))))))))))))))))))))))))))))))) ?_
  rw [tk_sR]
  refine ty_aload_n (pc := 317) (i := 0) (ks := []) (by decide +kernel) rfl ?_
  refine ty_sipush (pc := 318) (n := 600) (ks := []) (by decide +kernel) (by omega) ?_
  refine tk_newA (pc := 321) (at_ := .int) (t := 0) (s := 88) (i := 0) (n := 600) (by decide +kernel) (by decide +kernel) (by decide) (by omega) ((tk_M_ne (by decide)).trans ((tk_M_ne (by decide)).trans ((tk_M_ne (by decide)).trans ((tk_M_ne (by decide)).trans ((tk_M_ne (by decide)).trans ((tk_M_ne (by decide)).trans ((tk_M_ne (by decide)).trans ((tk_M_ne (by decide)).trans ((tk_M_ne (by decide)).trans ((tk_M_ne (by decide)).trans ((tk_M_ne (by decide)).trans ((tk_M_ne (by decide)).trans ((tk_M_ne (by decide)).trans ((tk_M_ne (by decide)).trans ((tk_M_ne (by decide)).trans ((tk_M_ne (by decide)).trans ((tk_M_ne (by decide)).trans ((tk_M_ne (by decide)).trans ((tk_M_ne (by decide)).trans ((tk_M_ne (by decide)).trans ((tk_M_ne (by decide)).trans ((tk_M_ne (by decide)).trans ((tk_M_ne (by decide)).trans ((tk_M_ne (by decide)).trans ((tk_M_ne (by decide)).trans ((tk_M_ne (by decide)).trans ((tk_M_ne (by decide)).trans ((tk_M_ne (by decide)).trans ((tk_M_ne (by decide)).trans ((tk_M_ne (by decide)).trans ((tk_M_ne (by decide)).trans ((tk_M_ne (by decide)).trans ((tk_M_ne (by decide)).trans ((tk_M_ne (by decide)).trans ((tk_M_ne (by decide)).trans hm88))))))))))))))))))))))))))))))))))) (by simp) (by decide) ?_
  rw [show (600 : Int).toNat = 600 from rfl]
  refine ty_putR (pc := 323) (idx := 120) (ci := 13) (f := 58) (by decide +kernel) (by decide +kernel) rfl rfl (tk_p (tk_p (tk_p (tk_p (tk_p (tk_p (tk_p (tk_p (tk_p (tk_p (tk_p (tk_p (tk_p (tk_p (tk_p (tk_p (tk_p (tk_p (tk_p (tk_p (tk_p (tk_p (tk_p (tk_p (tk_p (tk_p (tk_p (tk_p (tk_p (tk_p (tk_p (tk_p (tk_p (tk_p (tk_p (tk_p hp)))))))))))))))))))))))))))))))))))) ?_
  rw [tk_sR]
  refine ty_aload_n (pc := 326) (i := 0) (ks := []) (by decide +kernel) rfl ?_
  refine ty_sipush (pc := 327) (n := 600) (ks := []) (by decide +kernel) (by omega) ?_
  refine tk_newA (pc := 330) (at_ := .int) (t := 0) (s := 89) (i := 0) (n := 600) (by decide +kernel) (by decide +kernel) (by decide) (by omega) ((tk_M_ne (by decide)).trans ((tk_M_ne (by decide)).trans ((tk_M_ne (by decide)).trans ((tk_M_ne (by decide)).trans ((tk_M_ne (by decide)).trans ((tk_M_ne (by decide)).trans ((tk_M_ne (by decide)).trans ((tk_M_ne (by decide)).trans ((tk_M_ne (by decide)).trans ((tk_M_ne (by decide)).trans ((tk_M_ne (by decide)).trans ((tk_M_ne (by decide)).trans ((tk_M_ne (by decide)).trans ((tk_M_ne (by decide)).trans ((tk_M_ne (by decide)).trans ((tk_M_ne (by decide)).trans ((tk_M_ne (by decide)).trans ((tk_M_ne (by decide)).trans ((tk_M_ne (by decide)).trans ((tk_M_ne (by decide)).trans ((tk_M_ne (by decide)).trans ((tk_M_ne (by decide)).trans ((tk_M_ne (by decide)).trans ((tk_M_ne (by decide)).trans ((tk_M_ne (by decide)).trans ((tk_M_ne (by decide)).trans ((tk_M_ne (by decide)).trans ((tk_M_ne (by decide)).trans ((tk_M_ne (by decide)).trans ((tk_M_ne (by decide)).trans ((tk_M_ne (by decide)).trans ((tk_M_ne (by decide)).trans ((tk_M_ne (by decide)).trans ((tk_M_ne (by decide)).trans ((tk_M_ne (by decide)).trans ((tk_M_ne (by decide)).trans hm89)))))))))))))))))))))))))))))))))))) (by simp) (by decide) ?_
  rw [show (600 : Int).toNat = 600 from rfl]
  refine ty_putR (pc := 332) (idx := 123) (ci := 13) (f := 59) (by decide +kernel) (by decide +kernel) rfl rfl (tk_p (tk_p (tk_p (tk_p (tk_p (tk_p (tk_p (tk_p (tk_p (tk_p (tk_p (tk_p (tk_p (tk_p (tk_p (tk_p (tk_p (tk_p (tk_p (tk_p (tk_p (tk_p (tk_p (tk_p (tk_p (tk_p (tk_p (tk_p (tk_p (tk_p (tk_p (tk_p (tk_p (tk_p (tk_p (tk_p (tk_p hp))))))))))))))))))))))))))))))))))))) ?_
  rw [tk_sR]
  refine ty_aload_n (pc := 335) (i := 0) (ks := []) (by decide +kernel) rfl ?_
  refine ty_sipush (pc := 336) (n := 600) (ks := []) (by decide +kernel) (by omega) ?_
  refine tk_newA (pc := 339) (at_ := .int) (t := 0) (s := 90) (i := 0) (n := 600) (by decide +kernel) (by decide +kernel) (by decide) (by omega) ((tk_M_ne (by decide)).trans ((tk_M_ne (by decide)).trans ((tk_M_ne (by decide)).trans ((tk_M_ne (by decide)).trans ((tk_M_ne (by decide)).trans ((tk_M_ne (by decide)).trans ((tk_M_ne (by decide)).trans ((tk_M_ne (by decide)).trans ((tk_M_ne (by decide)).trans ((tk_M_ne (by decide)).trans ((tk_M_ne (by decide)).trans ((tk_M_ne (by decide)).trans ((tk_M_ne (by decide)).trans ((tk_M_ne (by decide)).trans ((tk_M_ne (by decide)).trans ((tk_M_ne (by decide)).trans ((tk_M_ne (by decide)).trans ((tk_M_ne (by decide)).trans ((tk_M_ne (by decide)).trans ((tk_M_ne (by decide)).trans ((tk_M_ne (by decide)).trans ((tk_M_ne (by decide)).trans ((tk_M_ne (by decide)).trans ((tk_M_ne (by decide)).trans ((tk_M_ne (by decide)).trans ((tk_M_ne (by decide)).trans ((tk_M_ne (by decide)).trans ((tk_M_ne (by decide)).trans ((tk_M_ne (by decide)).trans ((tk_M_ne (by decide)).trans ((tk_M_ne (by decide)).trans ((tk_M_ne (by decide)).trans ((tk_M_ne (by decide)).trans ((tk_M_ne (by decide)).trans ((tk_M_ne (by decide)).trans ((tk_M_ne (by decide)).trans ((tk_M_ne (by decide)).trans hm90))))))))))))))))))))))))))))))))))))) (by simp) (by decide) ?_
  rw [show (600 : Int).toNat = 600 from rfl]
  refine ty_putR (pc := 341) (idx := 126) (ci := 13) (f := 60) (by decide +kernel) (by decide +kernel) rfl rfl (tk_p (tk_p (tk_p (tk_p (tk_p (tk_p (tk_p (tk_p (tk_p (tk_p (tk_p (tk_p (tk_p (tk_p (tk_p (tk_p (tk_p (tk_p (tk_p (tk_p (tk_p (tk_p (tk_p (tk_p (tk_p (tk_p (tk_p (tk_p (tk_p (tk_p (tk_p (tk_p (tk_p (tk_p (tk_p (tk_p (tk_p (tk_p hp)))))))))))))))))))))))))))))))))))))) ?_
  rw [tk_sR]
  refine ty_aload_n (pc := 344) (i := 0) (ks := []) (by decide +kernel) rfl ?_
  refine ty_bipush (pc := 345) (n := 80) (ks := []) (by decide +kernel) (by omega) ?_
  refine tk_newA (pc := 347) (at_ := .int) (t := 0) (s := 91) (i := 0) (n := 80) (by decide +kernel) (by decide +kernel) (by decide) (by omega) ((tk_M_ne (by decide)).trans ((tk_M_ne (by decide)).trans ((tk_M_ne (by decide)).trans ((tk_M_ne (by decide)).trans ((tk_M_ne (by decide)).trans ((tk_M_ne (by decide)).trans ((tk_M_ne (by decide)).trans ((tk_M_ne (by decide)).trans ((tk_M_ne (by decide)).trans ((tk_M_ne (by decide)).trans ((tk_M_ne (by decide)).trans ((tk_M_ne (by decide)).trans ((tk_M_ne (by decide)).trans ((tk_M_ne (by decide)).trans ((tk_M_ne (by decide)).trans ((tk_M_ne (by decide)).trans ((tk_M_ne (by decide)).trans ((tk_M_ne (by decide)).trans ((tk_M_ne (by decide)).trans ((tk_M_ne (by decide)).trans ((tk_M_ne (by decide)).trans ((tk_M_ne (by decide)).trans ((tk_M_ne (by decide)).trans ((tk_M_ne (by decide)).trans ((tk_M_ne (by decide)).trans ((tk_M_ne (by decide)).trans ((tk_M_ne (by decide)).trans ((tk_M_ne (by decide)).trans ((tk_M_ne (by decide)).trans ((tk_M_ne (by decide)).trans ((tk_M_ne (by decide)).trans ((tk_M_ne (by decide)).trans ((tk_M_ne (by decide)).trans ((tk_M_ne (by decide)).trans ((tk_M_ne (by decide)).trans ((tk_M_ne (by decide)).trans ((tk_M_ne (by decide)).trans ((tk_M_ne (by decide)).trans hm91)))))))))))))))))))))))))))))))))))))) (by simp) (by decide) ?_
  rw [show (80 : Int).toNat = 80 from rfl]
  refine ty_putR (pc := 349) (idx := 129) (ci := 13) (f := 61) (by decide +kernel) (by decide +kernel) rfl rfl (tk_p (tk_p (tk_p (tk_p (tk_p (tk_p (tk_p (tk_p (tk_p (tk_p (tk_p (tk_p (tk_p (tk_p (tk_p (tk_p (tk_p (tk_p (tk_p (tk_p (tk_p (tk_p (tk_p (tk_p (tk_p (tk_p (tk_p (tk_p (tk_p (tk_p (tk_p (tk_p (tk_p (tk_p (tk_p (tk_p (tk_p (tk_p (tk_p hp))))))))))))))))))))))))))))))))))))))) ?_
  rw [tk_sR]
  refine ty_aload_n (pc := 352) (i := 0) (ks := []) (by decide +kernel) rfl ?_
  refine ty_sipush (pc := 353) (n := 800) (ks := []) (by decide +kernel) (by omega) ?_
  refine tk_newA (pc := 356) (at_ := .int) (t := 0) (s := 92) (i := 0) (n := 800) (by decide +kernel) (by decide +kernel) (by decide) (by omega) ((tk_M_ne (by decide)).trans ((tk_M_ne (by decide)).trans ((tk_M_ne (by decide)).trans ((tk_M_ne (by decide)).trans ((tk_M_ne (by decide)).trans ((tk_M_ne (by decide)).trans ((tk_M_ne (by decide)).trans ((tk_M_ne (by decide)).trans ((tk_M_ne (by decide)).trans ((tk_M_ne (by decide)).trans ((tk_M_ne (by decide)).trans ((tk_M_ne (by decide)).trans ((tk_M_ne (by decide)).trans ((tk_M_ne (by decide)).trans ((tk_M_ne (by decide)).trans ((tk_M_ne (by decide)).trans ((tk_M_ne (by decide)).trans ((tk_M_ne (by decide)).trans ((tk_M_ne (by decide)).trans ((tk_M_ne (by decide)).trans ((tk_M_ne (by decide)).trans ((tk_M_ne (by decide)).trans ((tk_M_ne (by decide)).trans ((tk_M_ne (by decide)).trans ((tk_M_ne (by decide)).trans ((tk_M_ne (by decide)).trans ((tk_M_ne (by decide)).trans ((tk_M_ne (by decide)).trans ((tk_M_ne (by decide)).trans ((tk_M_ne (by decide)).trans ((tk_M_ne (by decide)).trans ((tk_M_ne (by decide)).trans ((tk_M_ne (by decide)).trans ((tk_M_ne (by decide)).trans ((tk_M_ne (by decide)).trans ((tk_M_ne (by decide)).trans ((tk_M_ne (by decide)).trans ((tk_M_ne (by decide)).trans ((tk_M_ne (by decide)).trans hm92))))))))))))))))))))))))))))))))))))))) (by simp) (by decide) ?_
  rw [show (800 : Int).toNat = 800 from rfl]
  refine ty_putR (pc := 358) (idx := 132) (ci := 13) (f := 62) (by decide +kernel) (by decide +kernel) rfl rfl (tk_p (tk_p (tk_p (tk_p (tk_p (tk_p (tk_p (tk_p (tk_p (tk_p (tk_p (tk_p (tk_p (tk_p (tk_p (tk_p (tk_p (tk_p (tk_p (tk_p (tk_p (tk_p (tk_p (tk_p (tk_p (tk_p (tk_p (tk_p (tk_p (tk_p (tk_p (tk_p (tk_p (tk_p (tk_p (tk_p (tk_p (tk_p (tk_p (tk_p hp)))))))))))))))))))))))))))))))))))))))) ?_
  rw [tk_sR]
  refine ty_ret_v (pc := 361) (ks := []) (by decide +kernel) rfl ?_
  exact ⟨rfl, rfl⟩
theorem tc_Desk (d : Nat) :
    ty_C L xs (d + 5) 0 [.inr (.inr (some (93, 0)))] (tk (((93, 0), none, 0) :: []) (((93, 0), none, none) :: []) ([]) (93 :: []) (0 + 10)) (ty_oV fun S' => S' = tk (((18, 0), some 3, 0) :: ((18, 0), none, 0) :: ((39, 0), some 7, 0) :: ((39, 0), some 5, 0) :: ((39, 0), none, 0) :: ((38, 0), some 7, 0) :: ((38, 0), some 5, 0) :: ((38, 0), none, 0) :: ((37, 0), some 0, 0) :: ((37, 0), none, 0) :: ((17, 0), some 15, 0) :: ((17, 0), some 14, 0) :: ((17, 0), some 12, 0) :: ((17, 0), some 11, 0) :: ((36, 0), some 2, 0) :: ((36, 0), none, 0) :: ((17, 0), some 8, 0) :: ((35, 0), some 2, 0) :: ((35, 0), none, 0) :: ((17, 0), some 6, 0) :: ((17, 0), none, 0) :: ((16, 0), some 3, 0) :: ((16, 0), some 2, 0) :: ((16, 0), none, 0) :: ((15, 0), some 0, 576) :: ((15, 0), some 6, 0) :: ((15, 0), some 4, 0) :: ((15, 0), none, 0) :: ((14, 11), some 0, 528) :: ((14, 11), some 6, 0) :: ((14, 11), some 4, 0) :: ((14, 11), none, 0) :: ((14, 10), some 0, 480) :: ((14, 10), some 6, 0) :: ((14, 10), some 4, 0) :: ((14, 10), none, 0) :: ((14, 9), some 0, 432) :: ((14, 9), some 6, 0) :: ((14, 9), some 4, 0) :: ((14, 9), none, 0) :: ((14, 8), some 0, 384) :: ((14, 8), some 6, 0) :: ((14, 8), some 4, 0) :: ((14, 8), none, 0) :: ((14, 7), some 0, 336) :: ((14, 7), some 6, 0) :: ((14, 7), some 4, 0) :: ((14, 7), none, 0) :: ((14, 6), some 0, 288) :: ((14, 6), some 6, 0) :: ((14, 6), some 4, 0) :: ((14, 6), none, 0) :: ((14, 5), some 0, 240) :: ((14, 5), some 6, 0) :: ((14, 5), some 4, 0) :: ((14, 5), none, 0) :: ((14, 4), some 0, 192) :: ((14, 4), some 6, 0) :: ((14, 4), some 4, 0) :: ((14, 4), none, 0) :: ((14, 3), some 0, 144) :: ((14, 3), some 6, 0) :: ((14, 3), some 4, 0) :: ((14, 3), none, 0) :: ((14, 2), some 0, 96) :: ((14, 2), some 6, 0) :: ((14, 2), some 4, 0) :: ((14, 2), none, 0) :: ((14, 1), some 0, 48) :: ((14, 1), some 6, 0) :: ((14, 1), some 4, 0) :: ((14, 1), none, 0) :: ((14, 0), some 0, 0) :: ((14, 0), some 6, 0) :: ((14, 0), some 4, 0) :: ((14, 0), none, 0) :: ((13, 0), some 13, 0) :: ((13, 0), some 10, 0) :: ((13, 0), some 7, 0) :: ((13, 0), some 5, 0) :: ((13, 0), some 4, 0) :: ((13, 0), none, 0) :: ((12, 0), none, 0) :: ((93, 0), some 6, 0) :: ((93, 0), some 4, 0) :: ((93, 0), some 2, (-1)) :: ((93, 0), some 1, 0) :: ((93, 0), none, 0) :: []) (((93, 0), some 9, some (18, 0)) :: ((18, 0), some 1, some (13, 0)) :: ((18, 0), some 0, some (12, 0)) :: ((18, 0), some 2, some (47, 0)) :: ((18, 0), none, none) :: ((93, 0), some 8, some (17, 0)) :: ((17, 0), some 4, some (39, 0)) :: ((39, 0), some 1, some (38, 0)) :: ((39, 0), some 0, some (13, 0)) :: ((39, 0), some 6, some (46, 0)) :: ((39, 0), some 4, some (45, 0)) :: ((39, 0), some 3, some (44, 0)) :: ((39, 0), some 2, some (43, 0)) :: ((39, 0), none, none) :: ((17, 0), some 3, some (38, 0)) :: ((17, 0), some 2, some (37, 0)) :: ((17, 0), some 1, some (13, 0)) :: ((17, 0), some 0, some (12, 0)) :: ((38, 0), some 2, some (37, 0)) :: ((38, 0), some 1, some (13, 0)) :: ((38, 0), some 0, some (12, 0)) :: ((38, 0), some 6, some (42, 0)) :: ((38, 0), some 4, some (41, 0)) :: ((38, 0), some 3, some (40, 0)) :: ((38, 0), none, none) :: ((37, 0), none, none) :: ((17, 0), some 10, some (36, 0)) :: ((36, 0), some 0, some (0, 1)) :: ((36, 0), none, none) :: ((17, 0), some 7, some (35, 0)) :: ((35, 0), some 0, some (0, 1)) :: ((35, 0), none, none) :: ((17, 0), none, none) :: ((93, 0), some 7, some (16, 0)) :: ((16, 0), some 0, some (12, 0)) :: ((16, 0), none, none) :: ((93, 0), some 5, some (15, 0)) :: ((15, 0), some 5, some (34, 12)) :: ((15, 0), some 3, some (33, 12)) :: ((15, 0), some 2, some (32, 12)) :: ((15, 0), some 1, some (31, 12)) :: ((15, 0), none, none) :: ((14, 11), some 5, some (34, 11)) :: ((14, 11), some 3, some (33, 11)) :: ((14, 11), some 2, some (32, 11)) :: ((14, 11), some 1, some (31, 11)) :: ((14, 11), none, none) :: ((14, 10), some 5, some (34, 10)) :: ((14, 10), some 3, some (33, 10)) :: ((14, 10), some 2, some (32, 10)) :: ((14, 10), some 1, some (31, 10)) :: ((14, 10), none, none) :: ((14, 9), some 5, some (34, 9)) :: ((14, 9), some 3, some (33, 9)) :: ((14, 9), some 2, some (32, 9)) :: ((14, 9), some 1, some (31, 9)) :: ((14, 9), none, none) :: ((14, 8), some 5, some (34, 8)) :: ((14, 8), some 3, some (33, 8)) :: ((14, 8), some 2, some (32, 8)) :: ((14, 8), some 1, some (31, 8)) :: ((14, 8), none, none) :: ((14, 7), some 5, some (34, 7)) :: ((14, 7), some 3, some (33, 7)) :: ((14, 7), some 2, some (32, 7)) :: ((14, 7), some 1, some (31, 7)) :: ((14, 7), none, none) :: ((14, 6), some 5, some (34, 6)) :: ((14, 6), some 3, some (33, 6)) :: ((14, 6), some 2, some (32, 6)) :: ((14, 6), some 1, some (31, 6)) :: ((14, 6), none, none) :: ((14, 5), some 5, some (34, 5)) :: ((14, 5), some 3, some (33, 5)) :: ((14, 5), some 2, some (32, 5)) :: ((14, 5), some 1, some (31, 5)) :: ((14, 5), none, none) :: ((14, 4), some 5, some (34, 4)) :: ((14, 4), some 3, some (33, 4)) :: ((14, 4), some 2, some (32, 4)) :: ((14, 4), some 1, some (31, 4)) :: ((14, 4), none, none) :: ((14, 3), some 5, some (34, 3)) :: ((14, 3), some 3, some (33, 3)) :: ((14, 3), some 2, some (32, 3)) :: ((14, 3), some 1, some (31, 3)) :: ((14, 3), none, none) :: ((14, 2), some 5, some (34, 2)) :: ((14, 2), some 3, some (33, 2)) :: ((14, 2), some 2, some (32, 2)) :: ((14, 2), some 1, some (31, 2)) :: ((14, 2), none, none) :: ((14, 1), some 5, some (34, 1)) :: ((14, 1), some 3, some (33, 1)) :: ((14, 1), some 2, some (32, 1)) :: ((14, 1), some 1, some (31, 1)) :: ((14, 1), none, none) :: ((14, 0), some 5, some (34, 0)) :: ((14, 0), some 3, some (33, 0)) :: ((14, 0), some 2, some (32, 0)) :: ((14, 0), some 1, some (31, 0)) :: ((14, 0), none, none) :: ((13, 0), some 0, some (12, 0)) :: ((13, 0), some 12, some (30, 0)) :: ((13, 0), some 11, some (29, 0)) :: ((13, 0), some 9, some (28, 0)) :: ((13, 0), some 8, some (27, 0)) :: ((13, 0), some 6, some (26, 0)) :: ((13, 0), some 3, some (25, 0)) :: ((13, 0), some 2, some (24, 0)) :: ((13, 0), some 1, some (23, 0)) :: ((13, 0), none, none) :: ((12, 0), some 3, some (22, 0)) :: ((12, 0), some 2, some (21, 0)) :: ((12, 0), some 1, some (20, 0)) :: ((12, 0), some 0, some (19, 0)) :: ((12, 0), none, none) :: ((93, 0), some 3, some (11, 0)) :: ((93, 0), some 0, some (10, 0)) :: ((93, 0), none, none) :: []) ((11, some (14, 11)) :: (10, some (14, 10)) :: (9, some (14, 9)) :: (8, some (14, 8)) :: (7, some (14, 7)) :: (6, some (14, 6)) :: (5, some (14, 5)) :: (4, some (14, 4)) :: (3, some (14, 3)) :: (2, some (14, 2)) :: (1, some (14, 1)) :: (0, some (14, 0)) :: []) (47 :: 18 :: 46 :: 45 :: 44 :: 43 :: 39 :: 42 :: 41 :: 40 :: 38 :: 37 :: 36 :: 35 :: 17 :: 16 :: 34 :: 33 :: 32 :: 31 :: 15 :: 34 :: 33 :: 32 :: 31 :: 14 :: 34 :: 33 :: 32 :: 31 :: 14 :: 34 :: 33 :: 32 :: 31 :: 14 :: 34 :: 33 :: 32 :: 31 :: 14 :: 34 :: 33 :: 32 :: 31 :: 14 :: 34 :: 33 :: 32 :: 31 :: 14 :: 34 :: 33 :: 32 :: 31 :: 14 :: 34 :: 33 :: 32 :: 31 :: 14 :: 34 :: 33 :: 32 :: 31 :: 14 :: 34 :: 33 :: 32 :: 31 :: 14 :: 34 :: 33 :: 32 :: 31 :: 14 :: 34 :: 33 :: 32 :: 31 :: 14 :: 30 :: 29 :: 28 :: 27 :: 26 :: 25 :: 24 :: 23 :: 13 :: 22 :: 21 :: 20 :: 19 :: 12 :: 11 :: 10 :: 93 :: []) (0 + 10 + 48 + 12 + 4 + 624 + 624 + 1872 + 624 + 14 + 128 + 128 + 128 + 500 + 500 + 500 + 500 + 500 + 7 + 24 + 24 + 24 + 26 + 7 + 24 + 24 + 24 + 26 + 7 + 24 + 24 + 24 + 26 + 7 + 24 + 24 + 24 + 26 + 7 + 24 + 24 + 24 + 26 + 7 + 24 + 24 + 24 + 26 + 7 + 24 + 24 + 24 + 26 + 7 + 24 + 24 + 24 + 26 + 7 + 24 + 24 + 24 + 26 + 7 + 24 + 24 + 24 + 26 + 7 + 24 + 24 + 24 + 26 + 7 + 24 + 24 + 24 + 26 + 7 + 24 + 24 + 24 + 26 + 5 + 16 + 3 + 3 + 1 + 8 + 1003 + 1003 + 500 + 8 + 500 + 500 + 500 + 500 + 4 + 80)) := by
  refine ty_enter (ml := 4) (ls := [_, _, _, _]) rfl rfl (Nat.le_of_ble_eq_true rfl) ?_
  refine ty_aload_n (pc := 0) (i := 0) (ks := []) (by decide +kernel) rfl ?_
  refine ty_objinit (pc := 1) (ins := .invokespecial 3) (ks := []) (by decide +kernel) (Nat.le_of_ble_eq_true rfl) ?_
  refine ty_aload_n (pc := 4) (i := 0) (ks := []) (by decide +kernel) rfl ?_
  refine ty_bipush (pc := 5) (n := 48) (ks := []) (by decide +kernel) (by omega) ?_
  refine tk_newA (pc := 7) (at_ := .char) (t := 1) (s := 10) (i := 0) (n := 48) (by decide +kernel) (by decide +kernel) (by decide) (by omega) (by decide) (by simp) (by decide) ?_
  rw [show (48 : Int).toNat = 48 from rfl]
  refine ty_putR (pc := 9) (idx := 9) (ci := 0) (f := 0) (by decide +kernel) (by decide +kernel) rfl rfl (by decide) ?_
  rw [tk_sR]
  refine ty_aload_n (pc := 12) (i := 0) (ks := []) (by decide +kernel) rfl ?_
  refine ty_iconst (pc := 13) (n := 0) (ks := []) (by decide +kernel) ?_
  refine ty_putI (pc := 14) (idx := 13) (ci := 0) (f := 1) (by decide +kernel) (by decide +kernel) rfl rfl (by decide) ?_
  rw [tk_sI]
  refine ty_aload_n (pc := 17) (i := 0) (ks := []) (by decide +kernel) rfl ?_
  refine ty_iconst (pc := 18) (n := (-1)) (ks := []) (by decide +kernel) ?_
  refine ty_putI (pc := 19) (idx := 17) (ci := 0) (f := 2) (by decide +kernel) (by decide +kernel) rfl rfl (by decide) ?_
  rw [tk_sI]
  refine ty_aload_n (pc := 22) (i := 0) (ks := []) (by decide +kernel) rfl ?_
  refine ty_bipush (pc := 23) (n := 12) (ks := []) (by decide +kernel) (by omega) ?_
  refine tk_newQ (pc := 25) (idx := 20) (t := 4) (s := 11) (i := 0) (n := 12) (by decide +kernel) (by decide +kernel) (by omega) (by decide) rfl (by decide) ?_
  rw [show (12 : Int).toNat = 12 from rfl]
  refine ty_putR (pc := 28) (idx := 22) (ci := 0) (f := 3) (by decide +kernel) (by decide +kernel) rfl rfl (by decide) ?_
  rw [tk_sR]
  refine ty_aload_n (pc := 31) (i := 0) (ks := []) (by decide +kernel) rfl ?_
  refine ty_iconst (pc := 32) (n := 0) (ks := []) (by decide +kernel) ?_
  refine ty_putI (pc := 33) (idx := 26) (ci := 0) (f := 4) (by decide +kernel) (by decide +kernel) rfl rfl (by decide) ?_
  rw [tk_sI]
  refine ty_aload_n (pc := 36) (i := 0) (ks := []) (by decide +kernel) rfl ?_
  refine ty_iconst (pc := 37) (n := 0) (ks := []) (by decide +kernel) ?_
  refine ty_putZ (pc := 38) (idx := 29) (ci := 0) (f := 6) (by decide +kernel) (by decide +kernel) rfl rfl (by decide) (by omega) ?_
  rw [tk_sI]
  refine tk_newO (pc := 41) (idx := 33) (ci := 1) (s := 12) (i := 0) (by decide +kernel) (by decide +kernel) (by decide +kernel) (by decide) ?_
  rw [show (ty_kd 1).length = 4 from rfl]
  refine ty_dup (pc := 44) (ks := []) (by decide +kernel) rfl ?_
  refine ty_callp (pc := 45) (idx := 35) (m := 1) (n := 1) (c := 0) (vs := []) (r := [_]) (by decide +kernel) rfl rfl (Nat.le_of_ble_eq_true rfl) ((tc_Terms d (by decide) (by decide) (by decide) (by decide) (by decide)).deeper (by omega)) ?_
  rintro _ _ ⟨rfl, rfl⟩
  refine ty_KV ?_
  refine ty_astore_n (pc := 48) (i := 1) (ks := []) (ls' := [_, _, _, _]) (by decide +kernel) rfl ?_
  refine tk_newO (pc := 49) (idx := 36) (ci := 2) (s := 13) (i := 0) (by decide +kernel) (by decide +kernel) (by decide +kernel) (by decide) ?_
  rw [show (ty_kd 2).length = 14 from rfl]
  refine ty_dup (pc := 52) (ks := []) (by decide +kernel) rfl ?_
  refine ty_aload_n (pc := 53) (i := 1) (ks := []) (by decide +kernel) rfl ?_
  refine ty_callp (pc := 54) (idx := 38) (m := 2) (n := 2) (c := 0) (vs := [_]) (r := [_]) (by decide +kernel) rfl rfl (Nat.le_of_ble_eq_true rfl) ((tc_Variables d (by decide) (by decide) (by decide) (by decide) (by decide) (by decide) (by decide) (by decide) (by decide)).deeper (by omega)) ?_
  rintro _ _ ⟨rfl, rfl⟩
  refine ty_KV ?_
  refine ty_astore_n (pc := 57) (i := 2) (ks := []) (ls' := [_, _, _, _]) (by decide +kernel) rfl ?_
  refine ty_iconst (pc := 58) (n := 0) (ks := []) (by decide +kernel) ?_
  refine ty_istore_n (pc := 59) (i := 3) (ks := []) (ls' := [_, _, _, _]) (by decide +kernel) rfl ?_
  refine ty_iload_n (pc := 60) (i := 3) (ks := []) (by decide +kernel) rfl ?_
  refine ty_bipush (pc := 61) (n := 12) (ks := []) (by decide +kernel) (by omega) ?_
  refine ty_icmp_ge (pc := 63) (off := 26) (t := 89) (ks := []) (by decide +kernel) (by omega) (by omega) (fun hc => ?_) (fun hc => ?_)
  · omega
  clear hc
  refine ty_aload_n (pc := 66) (i := 0) (ks := []) (by decide +kernel) rfl ?_
  refine ty_getS (b := (11, 0)) (pc := 67) (idx := 22) (ci := 0) (f := 3) (by decide +kernel) (by decide +kernel) rfl (by decide) (by decide) ?_
  refine ty_iload_n (pc := 70) (i := 3) (ks := []) (by decide +kernel) rfl ?_
  refine tk_newO (pc := 71) (idx := 20) (ci := 3) (s := 14) (i := 0) (by decide +kernel) (by decide +kernel) (by decide +kernel) (by decide) ?_
  rw [show (ty_kd 3).length = 7 from rfl]
  refine ty_dup (pc := 74) (ks := []) (by decide +kernel) rfl ?_
  refine ty_iload_n (pc := 75) (i := 3) (ks := []) (by decide +kernel) rfl ?_
  refine ty_bipush (pc := 76) (n := 48) (ks := []) (by decide +kernel) (by omega) ?_
  refine ty_imul (pc := 78) (ks := []) (by decide +kernel) ?_
  rw [show (0 : Int) * 48 = 0 from rfl]
  refine ty_callp (pc := 79) (idx := 41) (m := 3) (n := 2) (c := 0) (vs := [_]) (r := [_, _, _]) (by decide +kernel) rfl rfl (Nat.le_of_ble_eq_true rfl) ((tc_Clause d (a := (14, 0)) (j := 0) (st := 0) (by decide +kernel) (by decide) (by decide) (by decide) (by decide) (by decide)).deeper (by omega)) ?_
  rintro _ _ ⟨rfl, rfl⟩
  refine ty_KV ?_
  refine ty_aastore (pc := 82) (ks := []) (t := 4) (n := 12) (cj := 3) (by decide +kernel) (by decide +kernel) (by decide) (by decide) (by omega) (by decide +kernel) (by decide) (by decide +kernel) ?_
  rw [tk_sQ]
  refine ty_iinc (pc := 83) (i := 3) (n := 1) (ks := []) (ls' := [_, _, _, _]) (by decide +kernel) rfl rfl ?_
  rw [show (0 : Int) + 1 = 1 from rfl]
  refine ty_goto (pc := 86) (off := (-26)) (t := 60) (ks := []) (by decide +kernel) ?_
  refine ty_iload_n (pc := 60) (i := 3) (ks := []) (by decide +kernel) rfl ?_
  refine ty_bipush (pc := 61) (n := 12) (ks := []) (by decide +kernel) (by omega) ?_
  refine ty_icmp_ge (pc := 63) (off := 26) (t := 89) (ks := []) (by decide +kernel) (by omega) (by omega) (fun hc => ?_) (fun hc => ?_)
  · omega
  clear hc
  refine ty_aload_n (pc := 66) (i := 0) (ks := []) (by decide +kernel) rfl ?_
  refine ty_getS (b := (11, 0)) (pc := 67) (idx := 22) (ci := 0) (f := 3) (by decide +kernel) (by decide +kernel) rfl (by decide) (by decide) ?_
  refine ty_iload_n (pc := 70) (i := 3) (ks := []) (by decide +kernel) rfl ?_
  refine tk_newO (pc := 71) (idx := 20) (ci := 3) (s := 14) (i := 1) (by decide +kernel) (by decide +kernel) (by decide +kernel) (by decide) ?_
  rw [show (ty_kd 3).length = 7 from rfl]
  refine ty_dup (pc := 74) (ks := []) (by decide +kernel) rfl ?_
  refine ty_iload_n (pc := 75) (i := 3) (ks := []) (by decide +kernel) rfl ?_
  refine ty_bipush (pc := 76) (n := 48) (ks := []) (by decide +kernel) (by omega) ?_
  refine ty_imul (pc := 78) (ks := []) (by decide +kernel) ?_
  rw [show (1 : Int) * 48 = 48 from rfl]
  refine ty_callp (pc := 79) (idx := 41) (m := 3) (n := 2) (c := 0) (vs := [_]) (r := [_, _, _]) (by decide +kernel) rfl rfl (Nat.le_of_ble_eq_true rfl) ((tc_Clause d (a := (14, 1)) (j := 1) (st := 48) (by decide +kernel) (by decide) (by decide) (by decide) (by decide) (by decide)).deeper (by omega)) ?_
  rintro _ _ ⟨rfl, rfl⟩
  refine ty_KV ?_
  refine ty_aastore (pc := 82) (ks := []) (t := 4) (n := 12) (cj := 3) (by decide +kernel) (by decide +kernel) (by decide) (by decide) (by omega) (by decide +kernel) (by decide) (by decide +kernel) ?_
  rw [tk_sQ]
  refine ty_iinc (pc := 83) (i := 3) (n := 1) (ks := []) (ls' := [_, _, _, _]) (by decide +kernel) rfl rfl ?_
  rw [show (1 : Int) + 1 = 2 from rfl]
  refine ty_goto (pc := 86) (off := (-26)) (t := 60) (ks := []) (by decide +kernel) ?_
  refine ty_iload_n (pc := 60) (i := 3) (ks := []) (by decide +kernel) rfl ?_
  refine ty_bipush (pc := 61) (n := 12) (ks := []) (by decide +kernel) (by omega) ?_
  refine ty_icmp_ge (pc := 63) (off := 26) (t := 89) (ks := []) (by decide +kernel) (by omega) (by omega) (fun hc => ?_) (fun hc => ?_)
  · omega
  clear hc
  refine ty_aload_n (pc := 66) (i := 0) (ks := []) (by decide +kernel) rfl ?_
  refine ty_getS (b := (11, 0)) (pc := 67) (idx := 22) (ci := 0) (f := 3) (by decide +kernel) (by decide +kernel) rfl (by decide) (by decide) ?_
  refine ty_iload_n (pc := 70) (i := 3) (ks := []) (by decide +kernel) rfl ?_
  refine tk_newO (pc := 71) (idx := 20) (ci := 3) (s := 14) (i := 2) (by decide +kernel) (by decide +kernel) (by decide +kernel) (by decide) ?_
  rw [show (ty_kd 3).length = 7 from rfl]
  refine ty_dup (pc := 74) (ks := []) (by decide +kernel) rfl ?_
  refine ty_iload_n (pc := 75) (i := 3) (ks := []) (by decide +kernel) rfl ?_
  refine ty_bipush (pc := 76) (n := 48) (ks := []) (by decide +kernel) (by omega) ?_
  refine ty_imul (pc := 78) (ks := []) (by decide +kernel) ?_
  rw [show (2 : Int) * 48 = 96 from rfl]
  refine ty_callp (pc := 79) (idx := 41) (m := 3) (n := 2) (c := 0) (vs := [_]) (r := [_, _, _]) (by decide +kernel) rfl rfl (Nat.le_of_ble_eq_true rfl) ((tc_Clause d (a := (14, 2)) (j := 2) (st := 96) (by decide +kernel) (by decide) (by decide) (by decide) (by decide) (by decide)).deeper (by omega)) ?_
  rintro _ _ ⟨rfl, rfl⟩
  refine ty_KV ?_
  refine ty_aastore (pc := 82) (ks := []) (t := 4) (n := 12) (cj := 3) (by decide +kernel) (by decide +kernel) (by decide) (by decide) (by omega) (by decide +kernel) (by decide) (by decide +kernel) ?_
  rw [tk_sQ]
  refine ty_iinc (pc := 83) (i := 3) (n := 1) (ks := []) (ls' := [_, _, _, _]) (by decide +kernel) rfl rfl ?_
  rw [show (2 : Int) + 1 = 3 from rfl]
  refine ty_goto (pc := 86) (off := (-26)) (t := 60) (ks := []) (by decide +kernel) ?_
  refine ty_iload_n (pc := 60) (i := 3) (ks := []) (by decide +kernel) rfl ?_
  refine ty_bipush (pc := 61) (n := 12) (ks := []) (by decide +kernel) (by omega) ?_
  refine ty_icmp_ge (pc := 63) (off := 26) (t := 89) (ks := []) (by decide +kernel) (by omega) (by omega) (fun hc => ?_) (fun hc => ?_)
  · omega
  clear hc
  refine ty_aload_n (pc := 66) (i := 0) (ks := []) (by decide +kernel) rfl ?_
  refine ty_getS (b := (11, 0)) (pc := 67) (idx := 22) (ci := 0) (f := 3) (by decide +kernel) (by decide +kernel) rfl (by decide) (by decide) ?_
  refine ty_iload_n (pc := 70) (i := 3) (ks := []) (by decide +kernel) rfl ?_
  refine tk_newO (pc := 71) (idx := 20) (ci := 3) (s := 14) (i := 3) (by decide +kernel) (by decide +kernel) (by decide +kernel) (by decide) ?_
  rw [show (ty_kd 3).length = 7 from rfl]
  refine ty_dup (pc := 74) (ks := []) (by decide +kernel) rfl ?_
  refine ty_iload_n (pc := 75) (i := 3) (ks := []) (by decide +kernel) rfl ?_
  refine ty_bipush (pc := 76) (n := 48) (ks := []) (by decide +kernel) (by omega) ?_
  refine ty_imul (pc := 78) (ks := []) (by decide +kernel) ?_
  rw [show (3 : Int) * 48 = 144 from rfl]
  refine ty_callp (pc := 79) (idx := 41) (m := 3) (n := 2) (c := 0) (vs := [_]) (r := [_, _, _]) (by decide +kernel) rfl rfl (Nat.le_of_ble_eq_true rfl) ((tc_Clause d (a := (14, 3)) (j := 3) (st := 144) (by decide +kernel) (by decide) (by decide) (by decide) (by decide) (by decide)).deeper (by omega)) ?_
  rintro _ _ ⟨rfl, rfl⟩
  refine ty_KV ?_
  refine ty_aastore (pc := 82) (ks := []) (t := 4) (n := 12) (cj := 3) (by decide +kernel) (by decide +kernel) (by decide) (by decide) (by omega) (by decide +kernel) (by decide) (by decide +kernel) ?_
  rw [tk_sQ]
  refine ty_iinc (pc := 83) (i := 3) (n := 1) (ks := []) (ls' := [_, _, _, _]) (by decide +kernel) rfl rfl ?_
  rw [show (3 : Int) + 1 = 4 from rfl]
  refine ty_goto (pc := 86) (off := (-26)) (t := 60) (ks := []) (by decide +kernel) ?_
  refine ty_iload_n (pc := 60) (i := 3) (ks := []) (by decide +kernel) rfl ?_
  refine ty_bipush (pc := 61) (n := 12) (ks := []) (by decide +kernel) (by omega) ?_
  refine ty_icmp_ge (pc := 63) (off := 26) (t := 89) (ks := []) (by decide +kernel) (by omega) (by omega) (fun hc => ?_) (fun hc => ?_)
  · omega
  clear hc
  refine ty_aload_n (pc := 66) (i := 0) (ks := []) (by decide +kernel) rfl ?_
  refine ty_getS (b := (11, 0)) (pc := 67) (idx := 22) (ci := 0) (f := 3) (by decide +kernel) (by decide +kernel) rfl (by decide) (by decide) ?_
  refine ty_iload_n (pc := 70) (i := 3) (ks := []) (by decide +kernel) rfl ?_
  refine tk_newO (pc := 71) (idx := 20) (ci := 3) (s := 14) (i := 4) (by decide +kernel) (by decide +kernel) (by decide +kernel) (by decide) ?_
  rw [show (ty_kd 3).length = 7 from rfl]
  refine ty_dup (pc := 74) (ks := []) (by decide +kernel) rfl ?_
  refine ty_iload_n (pc := 75) (i := 3) (ks := []) (by decide +kernel) rfl ?_
  refine ty_bipush (pc := 76) (n := 48) (ks := []) (by decide +kernel) (by omega) ?_
  refine ty_imul (pc := 78) (ks := []) (by decide +kernel) ?_
  rw [show (4 : Int) * 48 = 192 from rfl]
  refine ty_callp (pc := 79) (idx := 41) (m := 3) (n := 2) (c := 0) (vs := [_]) (r := [_, _, _]) (by decide +kernel) rfl rfl (Nat.le_of_ble_eq_true rfl) ((tc_Clause d (a := (14, 4)) (j := 4) (st := 192) (by decide +kernel) (by decide) (by decide) (by decide) (by decide) (by decide)).deeper (by omega)) ?_
  rintro _ _ ⟨rfl, rfl⟩
  refine ty_KV ?_
  refine ty_aastore (pc := 82) (ks := []) (t := 4) (n := 12) (cj := 3) (by decide +kernel) (by decide +kernel) (by decide) (by decide) (by omega) (by decide +kernel) (by decide) (by decide +kernel) ?_
  rw [tk_sQ]
  refine ty_iinc (pc := 83) (i := 3) (n := 1) (ks := []) (ls' := [_, _, _, _]) (by decide +kernel) rfl rfl ?_
  rw [show (4 : Int) + 1 = 5 from rfl]
  refine ty_goto (pc := 86) (off := (-26)) (t := 60) (ks := []) (by decide +kernel) ?_
  refine ty_iload_n (pc := 60) (i := 3) (ks := []) (by decide +kernel) rfl ?_
  refine ty_bipush (pc := 61) (n := 12) (ks := []) (by decide +kernel) (by omega) ?_
  refine ty_icmp_ge (pc := 63) (off := 26) (t := 89) (ks := []) (by decide +kernel) (by omega) (by omega) (fun hc => ?_) (fun hc => ?_)
  · omega
  clear hc
  refine ty_aload_n (pc := 66) (i := 0) (ks := []) (by decide +kernel) rfl ?_
  refine ty_getS (b := (11, 0)) (pc := 67) (idx := 22) (ci := 0) (f := 3) (by decide +kernel) (by decide +kernel) rfl (by decide) (by decide) ?_
  refine ty_iload_n (pc := 70) (i := 3) (ks := []) (by decide +kernel) rfl ?_
  refine tk_newO (pc := 71) (idx := 20) (ci := 3) (s := 14) (i := 5) (by decide +kernel) (by decide +kernel) (by decide +kernel) (by decide) ?_
  rw [show (ty_kd 3).length = 7 from rfl]
  refine ty_dup (pc := 74) (ks := []) (by decide +kernel) rfl ?_
  refine ty_iload_n (pc := 75) (i := 3) (ks := []) (by decide +kernel) rfl ?_
  refine ty_bipush (pc := 76) (n := 48) (ks := []) (by decide +kernel) (by omega) ?_
  refine ty_imul (pc := 78) (ks := []) (by decide +kernel) ?_
  rw [show (5 : Int) * 48 = 240 from rfl]
  refine ty_callp (pc := 79) (idx := 41) (m := 3) (n := 2) (c := 0) (vs := [_]) (r := [_, _, _]) (by decide +kernel) rfl rfl (Nat.le_of_ble_eq_true rfl) ((tc_Clause d (a := (14, 5)) (j := 5) (st := 240) (by decide +kernel) (by decide) (by decide) (by decide) (by decide) (by decide)).deeper (by omega)) ?_
  rintro _ _ ⟨rfl, rfl⟩
  refine ty_KV ?_
  refine ty_aastore (pc := 82) (ks := []) (t := 4) (n := 12) (cj := 3) (by decide +kernel) (by decide +kernel) (by decide) (by decide) (by omega) (by decide +kernel) (by decide) (by decide +kernel) ?_
  rw [tk_sQ]
  refine ty_iinc (pc := 83) (i := 3) (n := 1) (ks := []) (ls' := [_, _, _, _]) (by decide +kernel) rfl rfl ?_
  rw [show (5 : Int) + 1 = 6 from rfl]
  refine ty_goto (pc := 86) (off := (-26)) (t := 60) (ks := []) (by decide +kernel) ?_
  refine ty_iload_n (pc := 60) (i := 3) (ks := []) (by decide +kernel) rfl ?_
  refine ty_bipush (pc := 61) (n := 12) (ks := []) (by decide +kernel) (by omega) ?_
  refine ty_icmp_ge (pc := 63) (off := 26) (t := 89) (ks := []) (by decide +kernel) (by omega) (by omega) (fun hc => ?_) (fun hc => ?_)
  · omega
  clear hc
  refine ty_aload_n (pc := 66) (i := 0) (ks := []) (by decide +kernel) rfl ?_
  refine ty_getS (b := (11, 0)) (pc := 67) (idx := 22) (ci := 0) (f := 3) (by decide +kernel) (by decide +kernel) rfl (by decide) (by decide) ?_
  refine ty_iload_n (pc := 70) (i := 3) (ks := []) (by decide +kernel) rfl ?_
  refine tk_newO (pc := 71) (idx := 20) (ci := 3) (s := 14) (i := 6) (by decide +kernel) (by decide +kernel) (by decide +kernel) (by decide) ?_
  rw [show (ty_kd 3).length = 7 from rfl]
  refine ty_dup (pc := 74) (ks := []) (by decide +kernel) rfl ?_
  refine ty_iload_n (pc := 75) (i := 3) (ks := []) (by decide +kernel) rfl ?_
  refine ty_bipush (pc := 76) (n := 48) (ks := []) (by decide +kernel) (by omega) ?_
  refine ty_imul (pc := 78) (ks := []) (by decide +kernel) ?_
  rw [show (6 : Int) * 48 = 288 from rfl]
  refine ty_callp (pc := 79) (idx := 41) (m := 3) (n := 2) (c := 0) (vs := [_]) (r := [_, _, _]) (by decide +kernel) rfl rfl (Nat.le_of_ble_eq_true rfl) ((tc_Clause d (a := (14, 6)) (j := 6) (st := 288) (by decide +kernel) (by decide) (by decide) (by decide) (by decide) (by decide)).deeper (by omega)) ?_
  rintro _ _ ⟨rfl, rfl⟩
  refine ty_KV ?_
  refine ty_aastore (pc := 82) (ks := []) (t := 4) (n := 12) (cj := 3) (by decide +kernel) (by decide +kernel) (by decide) (by decide) (by omega) (by decide +kernel) (by decide) (by decide +kernel) ?_
  rw [tk_sQ]
  refine ty_iinc (pc := 83) (i := 3) (n := 1) (ks := []) (ls' := [_, _, _, _]) (by decide +kernel) rfl rfl ?_
  rw [show (6 : Int) + 1 = 7 from rfl]
  refine ty_goto (pc := 86) (off := (-26)) (t := 60) (ks := []) (by decide +kernel) ?_
  refine ty_iload_n (pc := 60) (i := 3) (ks := []) (by decide +kernel) rfl ?_
  refine ty_bipush (pc := 61) (n := 12) (ks := []) (by decide +kernel) (by omega) ?_
  refine ty_icmp_ge (pc := 63) (off := 26) (t := 89) (ks := []) (by decide +kernel) (by omega) (by omega) (fun hc => ?_) (fun hc => ?_)
  · omega
  clear hc
  refine ty_aload_n (pc := 66) (i := 0) (ks := []) (by decide +kernel) rfl ?_
  refine ty_getS (b := (11, 0)) (pc := 67) (idx := 22) (ci := 0) (f := 3) (by decide +kernel) (by decide +kernel) rfl (by decide) (by decide) ?_
  refine ty_iload_n (pc := 70) (i := 3) (ks := []) (by decide +kernel) rfl ?_
  refine tk_newO (pc := 71) (idx := 20) (ci := 3) (s := 14) (i := 7) (by decide +kernel) (by decide +kernel) (by decide +kernel) (by decide) ?_
  rw [show (ty_kd 3).length = 7 from rfl]
  refine ty_dup (pc := 74) (ks := []) (by decide +kernel) rfl ?_
  refine ty_iload_n (pc := 75) (i := 3) (ks := []) (by decide +kernel) rfl ?_
  refine ty_bipush (pc := 76) (n := 48) (ks := []) (by decide +kernel) (by omega) ?_
  refine ty_imul (pc := 78) (ks := []) (by decide +kernel) ?_
  rw [show (7 : Int) * 48 = 336 from rfl]
  refine ty_callp (pc := 79) (idx := 41) (m := 3) (n := 2) (c := 0) (vs := [_]) (r := [_, _, _]) (by decide +kernel) rfl rfl (Nat.le_of_ble_eq_true rfl) ((tc_Clause d (a := (14, 7)) (j := 7) (st := 336) (by decide +kernel) (by decide) (by decide) (by decide) (by decide) (by decide)).deeper (by omega)) ?_
  rintro _ _ ⟨rfl, rfl⟩
  refine ty_KV ?_
  refine ty_aastore (pc := 82) (ks := []) (t := 4) (n := 12) (cj := 3) (by decide +kernel) (by decide +kernel) (by decide) (by decide) (by omega) (by decide +kernel) (by decide) (by decide +kernel) ?_
  rw [tk_sQ]
  refine ty_iinc (pc := 83) (i := 3) (n := 1) (ks := []) (ls' := [_, _, _, _]) (by decide +kernel) rfl rfl ?_
  rw [show (7 : Int) + 1 = 8 from rfl]
  refine ty_goto (pc := 86) (off := (-26)) (t := 60) (ks := []) (by decide +kernel) ?_
  refine ty_iload_n (pc := 60) (i := 3) (ks := []) (by decide +kernel) rfl ?_
  refine ty_bipush (pc := 61) (n := 12) (ks := []) (by decide +kernel) (by omega) ?_
  refine ty_icmp_ge (pc := 63) (off := 26) (t := 89) (ks := []) (by decide +kernel) (by omega) (by omega) (fun hc => ?_) (fun hc => ?_)
  · omega
  clear hc
  refine ty_aload_n (pc := 66) (i := 0) (ks := []) (by decide +kernel) rfl ?_
  refine ty_getS (b := (11, 0)) (pc := 67) (idx := 22) (ci := 0) (f := 3) (by decide +kernel) (by decide +kernel) rfl (by decide) (by decide) ?_
  refine ty_iload_n (pc := 70) (i := 3) (ks := []) (by decide +kernel) rfl ?_
  refine tk_newO (pc := 71) (idx := 20) (ci := 3) (s := 14) (i := 8) (by decide +kernel) (by decide +kernel) (by decide +kernel) (by decide) ?_
  rw [show (ty_kd 3).length = 7 from rfl]
  refine ty_dup (pc := 74) (ks := []) (by decide +kernel) rfl ?_
  refine ty_iload_n (pc := 75) (i := 3) (ks := []) (by decide +kernel) rfl ?_
  refine ty_bipush (pc := 76) (n := 48) (ks := []) (by decide +kernel) (by omega) ?_
  refine ty_imul (pc := 78) (ks := []) (by decide +kernel) ?_
  rw [show (8 : Int) * 48 = 384 from rfl]
  refine ty_callp (pc := 79) (idx := 41) (m := 3) (n := 2) (c := 0) (vs := [_]) (r := [_, _, _]) (by decide +kernel) rfl rfl (Nat.le_of_ble_eq_true rfl) ((tc_Clause d (a := (14, 8)) (j := 8) (st := 384) (by decide +kernel) (by decide) (by decide) (by decide) (by decide) (by decide)).deeper (by omega)) ?_
  rintro _ _ ⟨rfl, rfl⟩
  refine ty_KV ?_
  refine ty_aastore (pc := 82) (ks := []) (t := 4) (n := 12) (cj := 3) (by decide +kernel) (by decide +kernel) (by decide) (by decide) (by omega) (by decide +kernel) (by decide) (by decide +kernel) ?_
  rw [tk_sQ]
  refine ty_iinc (pc := 83) (i := 3) (n := 1) (ks := []) (ls' := [_, _, _, _]) (by decide +kernel) rfl rfl ?_
  rw [show (8 : Int) + 1 = 9 from rfl]
  refine ty_goto (pc := 86) (off := (-26)) (t := 60) (ks := []) (by decide +kernel) ?_
  refine ty_iload_n (pc := 60) (i := 3) (ks := []) (by decide +kernel) rfl ?_
  refine ty_bipush (pc := 61) (n := 12) (ks := []) (by decide +kernel) (by omega) ?_
  refine ty_icmp_ge (pc := 63) (off := 26) (t := 89) (ks := []) (by decide +kernel) (by omega) (by omega) (fun hc => ?_) (fun hc => ?_)
  · omega
  clear hc
  refine ty_aload_n (pc := 66) (i := 0) (ks := []) (by decide +kernel) rfl ?_
  refine ty_getS (b := (11, 0)) (pc := 67) (idx := 22) (ci := 0) (f := 3) (by decide +kernel) (by decide +kernel) rfl (by decide) (by decide) ?_
  refine ty_iload_n (pc := 70) (i := 3) (ks := []) (by decide +kernel) rfl ?_
  refine tk_newO (pc := 71) (idx := 20) (ci := 3) (s := 14) (i := 9) (by decide +kernel) (by decide +kernel) (by decide +kernel) (by decide) ?_
  rw [show (ty_kd 3).length = 7 from rfl]
  refine ty_dup (pc := 74) (ks := []) (by decide +kernel) rfl ?_
  refine ty_iload_n (pc := 75) (i := 3) (ks := []) (by decide +kernel) rfl ?_
  refine ty_bipush (pc := 76) (n := 48) (ks := []) (by decide +kernel) (by omega) ?_
  refine ty_imul (pc := 78) (ks := []) (by decide +kernel) ?_
  rw [show (9 : Int) * 48 = 432 from rfl]
  refine ty_callp (pc := 79) (idx := 41) (m := 3) (n := 2) (c := 0) (vs := [_]) (r := [_, _, _]) (by decide +kernel) rfl rfl (Nat.le_of_ble_eq_true rfl) ((tc_Clause d (a := (14, 9)) (j := 9) (st := 432) (by decide +kernel) (by decide) (by decide) (by decide) (by decide) (by decide)).deeper (by omega)) ?_
  rintro _ _ ⟨rfl, rfl⟩
  refine ty_KV ?_
  refine ty_aastore (pc := 82) (ks := []) (t := 4) (n := 12) (cj := 3) (by decide +kernel) (by decide +kernel) (by decide) (by decide) (by omega) (by decide +kernel) (by decide) (by decide +kernel) ?_
  rw [tk_sQ]
  refine ty_iinc (pc := 83) (i := 3) (n := 1) (ks := []) (ls' := [_, _, _, _]) (by decide +kernel) rfl rfl ?_
  rw [show (9 : Int) + 1 = 10 from rfl]
  refine ty_goto (pc := 86) (off := (-26)) (t := 60) (ks := []) (by decide +kernel) ?_
  refine ty_iload_n (pc := 60) (i := 3) (ks := []) (by decide +kernel) rfl ?_
  refine ty_bipush (pc := 61) (n := 12) (ks := []) (by decide +kernel) (by omega) ?_
  refine ty_icmp_ge (pc := 63) (off := 26) (t := 89) (ks := []) (by decide +kernel) (by omega) (by omega) (fun hc => ?_) (fun hc => ?_)
  · omega
  clear hc
  refine ty_aload_n (pc := 66) (i := 0) (ks := []) (by decide +kernel) rfl ?_
  refine ty_getS (b := (11, 0)) (pc := 67) (idx := 22) (ci := 0) (f := 3) (by decide +kernel) (by decide +kernel) rfl (by decide) (by decide) ?_
  refine ty_iload_n (pc := 70) (i := 3) (ks := []) (by decide +kernel) rfl ?_
  refine tk_newO (pc := 71) (idx := 20) (ci := 3) (s := 14) (i := 10) (by decide +kernel) (by decide +kernel) (by decide +kernel) (by decide) ?_
  rw [show (ty_kd 3).length = 7 from rfl]
  refine ty_dup (pc := 74) (ks := []) (by decide +kernel) rfl ?_
  refine ty_iload_n (pc := 75) (i := 3) (ks := []) (by decide +kernel) rfl ?_
  refine ty_bipush (pc := 76) (n := 48) (ks := []) (by decide +kernel) (by omega) ?_
  refine ty_imul (pc := 78) (ks := []) (by decide +kernel) ?_
  rw [show (10 : Int) * 48 = 480 from rfl]
  refine ty_callp (pc := 79) (idx := 41) (m := 3) (n := 2) (c := 0) (vs := [_]) (r := [_, _, _]) (by decide +kernel) rfl rfl (Nat.le_of_ble_eq_true rfl) ((tc_Clause d (a := (14, 10)) (j := 10) (st := 480) (by decide +kernel) (by decide) (by decide) (by decide) (by decide) (by decide)).deeper (by omega)) ?_
  rintro _ _ ⟨rfl, rfl⟩
  refine ty_KV ?_
  refine ty_aastore (pc := 82) (ks := []) (t := 4) (n := 12) (cj := 3) (by decide +kernel) (by decide +kernel) (by decide) (by decide) (by omega) (by decide +kernel) (by decide) (by decide +kernel) ?_
  rw [tk_sQ]
  refine ty_iinc (pc := 83) (i := 3) (n := 1) (ks := []) (ls' := [_, _, _, _]) (by decide +kernel) rfl rfl ?_
  rw [show (10 : Int) + 1 = 11 from rfl]
  refine ty_goto (pc := 86) (off := (-26)) (t := 60) (ks := []) (by decide +kernel) ?_
  refine ty_iload_n (pc := 60) (i := 3) (ks := []) (by decide +kernel) rfl ?_
  refine ty_bipush (pc := 61) (n := 12) (ks := []) (by decide +kernel) (by omega) ?_
  refine ty_icmp_ge (pc := 63) (off := 26) (t := 89) (ks := []) (by decide +kernel) (by omega) (by omega) (fun hc => ?_) (fun hc => ?_)
  · omega
  clear hc
  refine ty_aload_n (pc := 66) (i := 0) (ks := []) (by decide +kernel) rfl ?_
  refine ty_getS (b := (11, 0)) (pc := 67) (idx := 22) (ci := 0) (f := 3) (by decide +kernel) (by decide +kernel) rfl (by decide) (by decide) ?_
  refine ty_iload_n (pc := 70) (i := 3) (ks := []) (by decide +kernel) rfl ?_
  refine tk_newO (pc := 71) (idx := 20) (ci := 3) (s := 14) (i := 11) (by decide +kernel) (by decide +kernel) (by decide +kernel) (by decide) ?_
  rw [show (ty_kd 3).length = 7 from rfl]
  refine ty_dup (pc := 74) (ks := []) (by decide +kernel) rfl ?_
  refine ty_iload_n (pc := 75) (i := 3) (ks := []) (by decide +kernel) rfl ?_
  refine ty_bipush (pc := 76) (n := 48) (ks := []) (by decide +kernel) (by omega) ?_
  refine ty_imul (pc := 78) (ks := []) (by decide +kernel) ?_
  rw [show (11 : Int) * 48 = 528 from rfl]
  refine ty_callp (pc := 79) (idx := 41) (m := 3) (n := 2) (c := 0) (vs := [_]) (r := [_, _, _]) (by decide +kernel) rfl rfl (Nat.le_of_ble_eq_true rfl) ((tc_Clause d (a := (14, 11)) (j := 11) (st := 528) (by decide +kernel) (by decide) (by decide) (by decide) (by decide) (by decide)).deeper (by omega)) ?_
  rintro _ _ ⟨rfl, rfl⟩
  refine ty_KV ?_
  refine ty_aastore (pc := 82) (ks := []) (t := 4) (n := 12) (cj := 3) (by decide +kernel) (by decide +kernel) (by decide) (by decide) (by omega) (by decide +kernel) (by decide) (by decide +kernel) ?_
  rw [tk_sQ]
  refine ty_iinc (pc := 83) (i := 3) (n := 1) (ks := []) (ls' := [_, _, _, _]) (by decide +kernel) rfl rfl ?_
  rw [show (11 : Int) + 1 = 12 from rfl]
  refine ty_goto (pc := 86) (off := (-26)) (t := 60) (ks := []) (by decide +kernel) ?_
  refine ty_iload_n (pc := 60) (i := 3) (ks := []) (by decide +kernel) rfl ?_
  refine ty_bipush (pc := 61) (n := 12) (ks := []) (by decide +kernel) (by omega) ?_
  refine ty_icmp_ge (pc := 63) (off := 26) (t := 89) (ks := []) (by decide +kernel) (by omega) (by omega) (fun hc => ?_) (fun hc => ?_)
  rotate_left
  · omega
  clear hc
  refine ty_aload_n (pc := 89) (i := 0) (ks := []) (by decide +kernel) rfl ?_
  refine tk_newO (pc := 90) (idx := 20) (ci := 3) (s := 15) (i := 0) (by decide +kernel) (by decide +kernel) (by decide +kernel) (by decide) ?_
  rw [show (ty_kd 3).length = 7 from rfl]
  refine ty_dup (pc := 93) (ks := []) (by decide +kernel) rfl ?_
  refine ty_sipush (pc := 94) (n := 576) (ks := []) (by decide +kernel) (by omega) ?_
  refine ty_callp (pc := 97) (idx := 41) (m := 3) (n := 2) (c := 0) (vs := [_]) (r := [_, _]) (by decide +kernel) rfl rfl (Nat.le_of_ble_eq_true rfl) ((tc_Clause d (a := (15, 0)) (j := 12) (st := 576) (by decide +kernel) (by decide) (by decide) (by decide) (by decide) (by decide)).deeper (by omega)) ?_
  rintro _ _ ⟨rfl, rfl⟩
  refine ty_KV ?_
  refine ty_putR (pc := 100) (idx := 44) (ci := 0) (f := 5) (by decide +kernel) (by decide +kernel) rfl rfl (by decide) ?_
  rw [tk_sR]
  refine ty_aload_n (pc := 103) (i := 0) (ks := []) (by decide +kernel) rfl ?_
  refine tk_newO (pc := 104) (idx := 48) (ci := 4) (s := 16) (i := 0) (by decide +kernel) (by decide +kernel) (by decide +kernel) (by decide) ?_
  rw [show (ty_kd 4).length = 5 from rfl]
  refine ty_dup (pc := 107) (ks := []) (by decide +kernel) rfl ?_
  refine ty_aload_n (pc := 108) (i := 1) (ks := []) (by decide +kernel) rfl ?_
  refine ty_callp (pc := 109) (idx := 50) (m := 4) (n := 2) (c := 0) (vs := [_]) (r := [_, _]) (by decide +kernel) rfl rfl (Nat.le_of_ble_eq_true rfl) ((tc_Reader d (by decide)).deeper (by omega)) ?_
  rintro _ _ ⟨rfl, rfl⟩
  refine ty_KV ?_
  refine ty_putR (pc := 112) (idx := 51) (ci := 0) (f := 7) (by decide +kernel) (by decide +kernel) rfl rfl (by decide) ?_
  rw [tk_sR]
  refine ty_aload_n (pc := 115) (i := 0) (ks := []) (by decide +kernel) rfl ?_
  refine tk_newO (pc := 116) (idx := 55) (ci := 5) (s := 17) (i := 0) (by decide +kernel) (by decide +kernel) (by decide +kernel) (by decide) ?_
  rw [show (ty_kd 5).length = 16 from rfl]
  refine ty_dup (pc := 119) (ks := []) (by decide +kernel) rfl ?_
  refine ty_aload_n (pc := 120) (i := 1) (ks := []) (by decide +kernel) rfl ?_
  refine ty_aload_n (pc := 121) (i := 2) (ks := []) (by decide +kernel) rfl ?_
  refine ty_callp (pc := 122) (idx := 57) (m := 5) (n := 3) (c := 0) (vs := [_, _]) (r := [_, _]) (by decide +kernel) rfl rfl (Nat.le_of_ble_eq_true rfl) ((tc_Search d (by decide) (by decide) (by decide) (by decide) (by decide) (by decide) (by decide) (by decide) (by decide) (by decide) (by decide) (by decide) (by decide)).deeper (by omega)) ?_
  rintro _ _ ⟨rfl, rfl⟩
  refine ty_KV ?_
  refine ty_putR (pc := 125) (idx := 60) (ci := 0) (f := 8) (by decide +kernel) (by decide +kernel) rfl rfl (by decide) ?_
  rw [tk_sR]
  refine ty_aload_n (pc := 128) (i := 0) (ks := []) (by decide +kernel) rfl ?_
  refine tk_newO (pc := 129) (idx := 64) (ci := 10) (s := 18) (i := 0) (by decide +kernel) (by decide +kernel) (by decide +kernel) (by decide) ?_
  rw [show (ty_kd 10).length = 4 from rfl]
  refine ty_dup (pc := 132) (ks := []) (by decide +kernel) rfl ?_
  refine ty_aload_n (pc := 133) (i := 1) (ks := []) (by decide +kernel) rfl ?_
  refine ty_aload_n (pc := 134) (i := 2) (ks := []) (by decide +kernel) rfl ?_
  refine ty_callp (pc := 135) (idx := 66) (m := 12) (n := 3) (c := 0) (vs := [_, _]) (r := [_, _]) (by decide +kernel) rfl rfl (Nat.le_of_ble_eq_true rfl) ((tc_Writer d (by decide) (by decide)).deeper (by omega)) ?_
  rintro _ _ ⟨rfl, rfl⟩
  refine ty_KV ?_
  refine ty_putR (pc := 138) (idx := 67) (ci := 0) (f := 9) (by decide +kernel) (by decide +kernel) rfl rfl (by decide) ?_
  rw [tk_sR]
  refine ty_ret_v (pc := 141) (ks := []) (by decide +kernel) rfl ?_
  exact ⟨rfl, rfl⟩
end TCC
