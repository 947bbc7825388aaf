/-! The law's comparisons. -/
section LWT
variable {L : Nat} {xs : Nat → Int32} {S : ty_S}
theorem lw_t_type (d : Nat) (hS : ty_st S) {I' : Nat → Int} {A' : Nat → Int → Int} {k z : Int} (hk : I' 11 = k) (hkr : 0 ≤ k ∧ k ≤ 4) (hz : k = 0 → S.2.2.2.2.1 0 = (ty_J z).toInt64) {i : Int} {x6 : Option Int32} {Q : ai_O → ty_S → Prop} (cont : ty_W L xs (d + 1) 150 489 [some (.inr (.inr (some (0, 0)))), some (.inr (.inr (some (93, 0)))), some (.inr (.inr (some (94, 0)))), some (.inr (.inr (some (95, 0)))), some (.inl (ty_J i)), some (.inl (ty_J k)), some (.inl (ty_J z))] [] (rm_s S I' A') Q) :
    ty_W L xs (d + 1) 150 139 [some (.inr (.inr (some (0, 0)))), some (.inr (.inr (some (93, 0)))), some (.inr (.inr (some (94, 0)))), some (.inr (.inr (some (95, 0)))), some (.inl (ty_J i)), some (.inl (ty_J k)), x6.map .inl] [.inl (ty_J z)] (rm_s S I' A') Q := by
  refine ty_istore (pc := 139) (i := 6) (ks := []) (ls' := [_, _, _, _, _, _, _]) (by decide +kernel) rfl ?_
  refine ty_aload_n (pc := 141) (i := 2) (ks := []) (by decide +kernel) rfl ?_
  -- at 142: .invokevirtual 55
  refine ty_callv (pc := 142) (idx := 55) (m := 103) (n := 1) (c := 13) (vs := []) (r := []) (by decide +kernel) rfl rfl (Nat.le_of_ble_eq_true rfl) (by first | rfl | assumption) (by first | exact hS.1 _ _ rfl | assumption) ((rm_thrown (L := L) (xs := xs) (I := I') (A := A') 0 hS).deeper (by omega)) ?_
  rintro _ S3 ⟨t, rfl, ht, rfl⟩
  refine ty_KI ?_
  rw [hk] at ht
  subst ht
  refine ty_iload (pc := 145) (i := 5) (ks := []) (by decide +kernel) rfl ?_
  -- at 147: .if_icmp .eq 5
  refine ty_icmp_eq (pc := 147) (off := 5) (t := 152) (ks := []) (by decide +kernel) (by omega) (by omega) (fun hc => ?_) (fun hc => ?_)
  rotate_left
  · exact absurd rfl hc
  clear hc
  refine ty_iload (pc := 152) (i := 5) (ks := []) (by decide +kernel) rfl ?_
  -- at 154: .ifCond .ne 15
  refine ty_if_ne (pc := 154) (off := 15) (t := 169) (ks := []) (by decide +kernel) (by omega) (fun hc => ?_) (fun hc => ?_)
  · refine ty_goto (pc := 169) (off := 320) (t := 489) (ks := []) (by decide +kernel) ?_
    -- at 489: .iinc 4 3
    exact cont
  · have hk0 := hc
    clear hc
    refine ty_aload_n (pc := 157) (i := 3) (ks := []) (by decide +kernel) rfl ?_
    refine ty_iconst (pc := 158) (n := 0) (ks := []) (by decide +kernel) ?_
    -- at 159: .laload
    refine ty_laload (pc := 159) (ks := []) (by decide +kernel) (by first | rfl | assumption) (by rfl) (by first | exact hS.1 _ _ rfl | assumption) (by first | exact hS.2.1 _ _ _ rfl | assumption) (by omega) (fun v hv => ?_)
    have hv2 : v = (ty_J z).toInt64 := hv.symm.trans (hz hk0)
    clear hv
    subst hv2
    refine ty_iload (pc := 160) (i := 6) (ks := []) (by decide +kernel) rfl ?_
    refine ty_pure (pc := 162) (ins := .i2l) (ks := []) (by decide +kernel) rfl ?_
    -- at 163: .lcmp
    refine ty_lcmp (pc := 163) (ks := []) (by decide +kernel) ?_
    refine ty_if_eq (pc := 164) (off := 5) (t := 169) (ks := []) (by decide +kernel) (by omega) (fun hc => ?_) (fun hc => ?_)
    rotate_left
    · exact absurd rfl hc
    clear hc
    refine ty_goto (pc := 169) (off := 320) (t := 489) (ks := []) (by decide +kernel) ?_
    -- at 489: .iinc 4 3
    exact cont
theorem lw_t_add (d : Nat) (hS : ty_st S) {I' : Nat → Int} {A' : Nat → Int → Int} {k z : Int} (hk : I' 11 = k) (hkr : 0 ≤ k ∧ k ≤ 4) (hz : k = 0 → S.2.2.2.2.1 0 = (ty_J z).toInt64) {i : Int} {x6 : Option Int32} {Q : ai_O → ty_S → Prop} (cont : ty_W L xs (d + 1) 150 489 [some (.inr (.inr (some (0, 0)))), some (.inr (.inr (some (93, 0)))), some (.inr (.inr (some (94, 0)))), some (.inr (.inr (some (95, 0)))), some (.inl (ty_J i)), some (.inl (ty_J k)), some (.inl (ty_J z))] [] (rm_s S I' A') Q) :
    ty_W L xs (d + 1) 150 183 [some (.inr (.inr (some (0, 0)))), some (.inr (.inr (some (93, 0)))), some (.inr (.inr (some (94, 0)))), some (.inr (.inr (some (95, 0)))), some (.inl (ty_J i)), some (.inl (ty_J k)), x6.map .inl] [.inl (ty_J z)] (rm_s S I' A') Q := by
  refine ty_istore (pc := 183) (i := 6) (ks := []) (ls' := [_, _, _, _, _, _, _]) (by decide +kernel) rfl ?_
  refine ty_aload_n (pc := 185) (i := 2) (ks := []) (by decide +kernel) rfl ?_
  -- at 186: .invokevirtual 55
  refine ty_callv (pc := 186) (idx := 55) (m := 103) (n := 1) (c := 13) (vs := []) (r := []) (by decide +kernel) rfl rfl (Nat.le_of_ble_eq_true rfl) (by first | rfl | assumption) (by first | exact hS.1 _ _ rfl | assumption) ((rm_thrown (L := L) (xs := xs) (I := I') (A := A') 0 hS).deeper (by omega)) ?_
  rintro _ S3 ⟨t, rfl, ht, rfl⟩
  refine ty_KI ?_
  rw [hk] at ht
  subst ht
  refine ty_iload (pc := 189) (i := 5) (ks := []) (by decide +kernel) rfl ?_
  -- at 191: .if_icmp .eq 5
  refine ty_icmp_eq (pc := 191) (off := 5) (t := 196) (ks := []) (by decide +kernel) (by omega) (by omega) (fun hc => ?_) (fun hc => ?_)
  rotate_left
  · exact absurd rfl hc
  clear hc
  refine ty_iload (pc := 196) (i := 5) (ks := []) (by decide +kernel) rfl ?_
  -- at 198: .ifCond .ne 15
  refine ty_if_ne (pc := 198) (off := 15) (t := 213) (ks := []) (by decide +kernel) (by omega) (fun hc => ?_) (fun hc => ?_)
  · refine ty_goto (pc := 213) (off := 276) (t := 489) (ks := []) (by decide +kernel) ?_
    -- at 489: .iinc 4 3
    exact cont
  · have hk0 := hc
    clear hc
    refine ty_aload_n (pc := 201) (i := 3) (ks := []) (by decide +kernel) rfl ?_
    refine ty_iconst (pc := 202) (n := 0) (ks := []) (by decide +kernel) ?_
    -- at 203: .laload
    refine ty_laload (pc := 203) (ks := []) (by decide +kernel) (by first | rfl | assumption) (by rfl) (by first | exact hS.1 _ _ rfl | assumption) (by first | exact hS.2.1 _ _ _ rfl | assumption) (by omega) (fun v hv => ?_)
    have hv2 : v = (ty_J z).toInt64 := hv.symm.trans (hz hk0)
    clear hv
    subst hv2
    refine ty_iload (pc := 204) (i := 6) (ks := []) (by decide +kernel) rfl ?_
    refine ty_pure (pc := 206) (ins := .i2l) (ks := []) (by decide +kernel) rfl ?_
    -- at 207: .lcmp
    refine ty_lcmp (pc := 207) (ks := []) (by decide +kernel) ?_
    refine ty_if_eq (pc := 208) (off := 5) (t := 213) (ks := []) (by decide +kernel) (by omega) (fun hc => ?_) (fun hc => ?_)
    rotate_left
    · exact absurd rfl hc
    clear hc
    refine ty_goto (pc := 213) (off := 276) (t := 489) (ks := []) (by decide +kernel) ?_
    -- at 489: .iinc 4 3
    exact cont
theorem lw_t_ask (d : Nat) (hS : ty_st S) {I' : Nat → Int} {A' : Nat → Int → Int} {k z : Int} (hk : I' 11 = k) (hkr : 0 ≤ k ∧ k ≤ 4) (hz : k = 0 → S.2.2.2.2.1 0 = (ty_J z).toInt64) {i : Int} {x6 : Option Int32} {Q : ai_O → ty_S → Prop} (cont : ty_W L xs (d + 1) 150 489 [some (.inr (.inr (some (0, 0)))), some (.inr (.inr (some (93, 0)))), some (.inr (.inr (some (94, 0)))), some (.inr (.inr (some (95, 0)))), some (.inl (ty_J i)), some (.inl (ty_J k)), some (.inl (ty_J z))] [] (rm_s S I' A') Q) :
    ty_W L xs (d + 1) 150 263 [some (.inr (.inr (some (0, 0)))), some (.inr (.inr (some (93, 0)))), some (.inr (.inr (some (94, 0)))), some (.inr (.inr (some (95, 0)))), some (.inl (ty_J i)), some (.inl (ty_J k)), x6.map .inl] [.inl (ty_J z)] (rm_s S I' A') Q := by
  refine ty_istore (pc := 263) (i := 6) (ks := []) (ls' := [_, _, _, _, _, _, _]) (by decide +kernel) rfl ?_
  refine ty_aload_n (pc := 265) (i := 2) (ks := []) (by decide +kernel) rfl ?_
  -- at 266: .invokevirtual 55
  refine ty_callv (pc := 266) (idx := 55) (m := 103) (n := 1) (c := 13) (vs := []) (r := []) (by decide +kernel) rfl rfl (Nat.le_of_ble_eq_true rfl) (by first | rfl | assumption) (by first | exact hS.1 _ _ rfl | assumption) ((rm_thrown (L := L) (xs := xs) (I := I') (A := A') 0 hS).deeper (by omega)) ?_
  rintro _ S3 ⟨t, rfl, ht, rfl⟩
  refine ty_KI ?_
  rw [hk] at ht
  subst ht
  refine ty_iload (pc := 269) (i := 5) (ks := []) (by decide +kernel) rfl ?_
  -- at 271: .if_icmp .eq 5
  refine ty_icmp_eq (pc := 271) (off := 5) (t := 276) (ks := []) (by decide +kernel) (by omega) (by omega) (fun hc => ?_) (fun hc => ?_)
  rotate_left
  · exact absurd rfl hc
  clear hc
  refine ty_iload (pc := 276) (i := 5) (ks := []) (by decide +kernel) rfl ?_
  -- at 278: .ifCond .ne 15
  refine ty_if_ne (pc := 278) (off := 15) (t := 293) (ks := []) (by decide +kernel) (by omega) (fun hc => ?_) (fun hc => ?_)
  · refine ty_goto (pc := 293) (off := 196) (t := 489) (ks := []) (by decide +kernel) ?_
    -- at 489: .iinc 4 3
    exact cont
  · have hk0 := hc
    clear hc
    refine ty_aload_n (pc := 281) (i := 3) (ks := []) (by decide +kernel) rfl ?_
    refine ty_iconst (pc := 282) (n := 0) (ks := []) (by decide +kernel) ?_
    -- at 283: .laload
    refine ty_laload (pc := 283) (ks := []) (by decide +kernel) (by first | rfl | assumption) (by rfl) (by first | exact hS.1 _ _ rfl | assumption) (by first | exact hS.2.1 _ _ _ rfl | assumption) (by omega) (fun v hv => ?_)
    have hv2 : v = (ty_J z).toInt64 := hv.symm.trans (hz hk0)
    clear hv
    subst hv2
    refine ty_iload (pc := 284) (i := 6) (ks := []) (by decide +kernel) rfl ?_
    refine ty_pure (pc := 286) (ins := .i2l) (ks := []) (by decide +kernel) rfl ?_
    -- at 287: .lcmp
    refine ty_lcmp (pc := 287) (ks := []) (by decide +kernel) ?_
    refine ty_if_eq (pc := 288) (off := 5) (t := 293) (ks := []) (by decide +kernel) (by omega) (fun hc => ?_) (fun hc => ?_)
    rotate_left
    · exact absurd rfl hc
    clear hc
    refine ty_goto (pc := 293) (off := 196) (t := 489) (ks := []) (by decide +kernel) ?_
    -- at 489: .iinc 4 3
    exact cont
theorem lw_t_next (d : Nat) (hS : ty_st S) {I' : Nat → Int} {A' : Nat → Int → Int} {k z : Int} (hk : I' 11 = k) (hkr : 0 ≤ k ∧ k ≤ 4) (hz : k = 0 → S.2.2.2.2.1 0 = (ty_J z).toInt64) {i : Int} {x6 : Option Int32} {Q : ai_O → ty_S → Prop} (cont : ty_W L xs (d + 1) 150 489 [some (.inr (.inr (some (0, 0)))), some (.inr (.inr (some (93, 0)))), some (.inr (.inr (some (94, 0)))), some (.inr (.inr (some (95, 0)))), some (.inl (ty_J i)), some (.inl (ty_J k)), some (.inl (ty_J z))] [] (rm_s S I' A') Q) :
    ty_W L xs (d + 1) 150 307 [some (.inr (.inr (some (0, 0)))), some (.inr (.inr (some (93, 0)))), some (.inr (.inr (some (94, 0)))), some (.inr (.inr (some (95, 0)))), some (.inl (ty_J i)), some (.inl (ty_J k)), x6.map .inl] [.inl (ty_J z)] (rm_s S I' A') Q := by
  refine ty_istore (pc := 307) (i := 6) (ks := []) (ls' := [_, _, _, _, _, _, _]) (by decide +kernel) rfl ?_
  refine ty_aload_n (pc := 309) (i := 2) (ks := []) (by decide +kernel) rfl ?_
  -- at 310: .invokevirtual 55
  refine ty_callv (pc := 310) (idx := 55) (m := 103) (n := 1) (c := 13) (vs := []) (r := []) (by decide +kernel) rfl rfl (Nat.le_of_ble_eq_true rfl) (by first | rfl | assumption) (by first | exact hS.1 _ _ rfl | assumption) ((rm_thrown (L := L) (xs := xs) (I := I') (A := A') 0 hS).deeper (by omega)) ?_
  rintro _ S3 ⟨t, rfl, ht, rfl⟩
  refine ty_KI ?_
  rw [hk] at ht
  subst ht
  refine ty_iload (pc := 313) (i := 5) (ks := []) (by decide +kernel) rfl ?_
  -- at 315: .if_icmp .eq 5
  refine ty_icmp_eq (pc := 315) (off := 5) (t := 320) (ks := []) (by decide +kernel) (by omega) (by omega) (fun hc => ?_) (fun hc => ?_)
  rotate_left
  · exact absurd rfl hc
  clear hc
  refine ty_iload (pc := 320) (i := 5) (ks := []) (by decide +kernel) rfl ?_
  -- at 322: .ifCond .ne 15
  refine ty_if_ne (pc := 322) (off := 15) (t := 337) (ks := []) (by decide +kernel) (by omega) (fun hc => ?_) (fun hc => ?_)
  · refine ty_goto (pc := 337) (off := 152) (t := 489) (ks := []) (by decide +kernel) ?_
    -- at 489: .iinc 4 3
    exact cont
  · have hk0 := hc
    clear hc
    refine ty_aload_n (pc := 325) (i := 3) (ks := []) (by decide +kernel) rfl ?_
    refine ty_iconst (pc := 326) (n := 0) (ks := []) (by decide +kernel) ?_
    -- at 327: .laload
    refine ty_laload (pc := 327) (ks := []) (by decide +kernel) (by first | rfl | assumption) (by rfl) (by first | exact hS.1 _ _ rfl | assumption) (by first | exact hS.2.1 _ _ _ rfl | assumption) (by omega) (fun v hv => ?_)
    have hv2 : v = (ty_J z).toInt64 := hv.symm.trans (hz hk0)
    clear hv
    subst hv2
    refine ty_iload (pc := 328) (i := 6) (ks := []) (by decide +kernel) rfl ?_
    refine ty_pure (pc := 330) (ins := .i2l) (ks := []) (by decide +kernel) rfl ?_
    -- at 331: .lcmp
    refine ty_lcmp (pc := 331) (ks := []) (by decide +kernel) ?_
    refine ty_if_eq (pc := 332) (off := 5) (t := 337) (ks := []) (by decide +kernel) (by omega) (fun hc => ?_) (fun hc => ?_)
    rotate_left
    · exact absurd rfl hc
    clear hc
    refine ty_goto (pc := 337) (off := 152) (t := 489) (ks := []) (by decide +kernel) ?_
    -- at 489: .iinc 4 3
    exact cont
theorem lw_t_letter (d : Nat) (hS : ty_st S) {I' : Nat → Int} {A' : Nat → Int → Int} {k z : Int} (hk : I' 11 = k) (hkr : 0 ≤ k ∧ k ≤ 4) (hz : k = 0 → S.2.2.2.2.1 0 = (ty_J z).toInt64) {i : Int} {x6 : Option Int32} {Q : ai_O → ty_S → Prop} (cont : ty_W L xs (d + 1) 150 489 [some (.inr (.inr (some (0, 0)))), some (.inr (.inr (some (93, 0)))), some (.inr (.inr (some (94, 0)))), some (.inr (.inr (some (95, 0)))), some (.inl (ty_J i)), some (.inl (ty_J k)), some (.inl (ty_J z))] [] (rm_s S I' A') Q) :
    ty_W L xs (d + 1) 150 375 [some (.inr (.inr (some (0, 0)))), some (.inr (.inr (some (93, 0)))), some (.inr (.inr (some (94, 0)))), some (.inr (.inr (some (95, 0)))), some (.inl (ty_J i)), some (.inl (ty_J k)), x6.map .inl] [.inl (ty_J z)] (rm_s S I' A') Q := by
  refine ty_istore (pc := 375) (i := 6) (ks := []) (ls' := [_, _, _, _, _, _, _]) (by decide +kernel) rfl ?_
  refine ty_aload_n (pc := 377) (i := 2) (ks := []) (by decide +kernel) rfl ?_
  -- at 378: .invokevirtual 55
  refine ty_callv (pc := 378) (idx := 55) (m := 103) (n := 1) (c := 13) (vs := []) (r := []) (by decide +kernel) rfl rfl (Nat.le_of_ble_eq_true rfl) (by first | rfl | assumption) (by first | exact hS.1 _ _ rfl | assumption) ((rm_thrown (L := L) (xs := xs) (I := I') (A := A') 0 hS).deeper (by omega)) ?_
  rintro _ S3 ⟨t, rfl, ht, rfl⟩
  refine ty_KI ?_
  rw [hk] at ht
  subst ht
  refine ty_iload (pc := 381) (i := 5) (ks := []) (by decide +kernel) rfl ?_
  -- at 383: .if_icmp .eq 5
  refine ty_icmp_eq (pc := 383) (off := 5) (t := 388) (ks := []) (by decide +kernel) (by omega) (by omega) (fun hc => ?_) (fun hc => ?_)
  rotate_left
  · exact absurd rfl hc
  clear hc
  refine ty_iload (pc := 388) (i := 5) (ks := []) (by decide +kernel) rfl ?_
  -- at 390: .ifCond .ne 15
  refine ty_if_ne (pc := 390) (off := 15) (t := 405) (ks := []) (by decide +kernel) (by omega) (fun hc => ?_) (fun hc => ?_)
  · refine ty_goto (pc := 405) (off := 84) (t := 489) (ks := []) (by decide +kernel) ?_
    -- at 489: .iinc 4 3
    exact cont
  · have hk0 := hc
    clear hc
    refine ty_aload_n (pc := 393) (i := 3) (ks := []) (by decide +kernel) rfl ?_
    refine ty_iconst (pc := 394) (n := 0) (ks := []) (by decide +kernel) ?_
    -- at 395: .laload
    refine ty_laload (pc := 395) (ks := []) (by decide +kernel) (by first | rfl | assumption) (by rfl) (by first | exact hS.1 _ _ rfl | assumption) (by first | exact hS.2.1 _ _ _ rfl | assumption) (by omega) (fun v hv => ?_)
    have hv2 : v = (ty_J z).toInt64 := hv.symm.trans (hz hk0)
    clear hv
    subst hv2
    refine ty_iload (pc := 396) (i := 6) (ks := []) (by decide +kernel) rfl ?_
    refine ty_pure (pc := 398) (ins := .i2l) (ks := []) (by decide +kernel) rfl ?_
    -- at 399: .lcmp
    refine ty_lcmp (pc := 399) (ks := []) (by decide +kernel) ?_
    refine ty_if_eq (pc := 400) (off := 5) (t := 405) (ks := []) (by decide +kernel) (by omega) (fun hc => ?_) (fun hc => ?_)
    rotate_left
    · exact absurd rfl hc
    clear hc
    refine ty_goto (pc := 405) (off := 84) (t := 489) (ks := []) (by decide +kernel) ?_
    -- at 489: .iinc 4 3
    exact cont
theorem lw_t_sleeping (d : Nat) (hS : ty_st S) {I' : Nat → Int} {A' : Nat → Int → Int} {k z : Int} (hk : I' 11 = k) (hkr : 0 ≤ k ∧ k ≤ 4) (hz : k = 0 → S.2.2.2.2.1 0 = (ty_J z).toInt64) {i : Int} {x6 : Option Int32} {Q : ai_O → ty_S → Prop} (cont : ty_W L xs (d + 1) 150 489 [some (.inr (.inr (some (0, 0)))), some (.inr (.inr (some (93, 0)))), some (.inr (.inr (some (94, 0)))), some (.inr (.inr (some (95, 0)))), some (.inl (ty_J i)), some (.inl (ty_J k)), some (.inl (ty_J z))] [] (rm_s S I' A') Q) :
    ty_W L xs (d + 1) 150 431 [some (.inr (.inr (some (0, 0)))), some (.inr (.inr (some (93, 0)))), some (.inr (.inr (some (94, 0)))), some (.inr (.inr (some (95, 0)))), some (.inl (ty_J i)), some (.inl (ty_J k)), x6.map .inl] [.inl (ty_J z)] (rm_s S I' A') Q := by
  refine ty_istore (pc := 431) (i := 6) (ks := []) (ls' := [_, _, _, _, _, _, _]) (by decide +kernel) rfl ?_
  refine ty_aload_n (pc := 433) (i := 2) (ks := []) (by decide +kernel) rfl ?_
  -- at 434: .invokevirtual 55
  refine ty_callv (pc := 434) (idx := 55) (m := 103) (n := 1) (c := 13) (vs := []) (r := []) (by decide +kernel) rfl rfl (Nat.le_of_ble_eq_true rfl) (by first | rfl | assumption) (by first | exact hS.1 _ _ rfl | assumption) ((rm_thrown (L := L) (xs := xs) (I := I') (A := A') 0 hS).deeper (by omega)) ?_
  rintro _ S3 ⟨t, rfl, ht, rfl⟩
  refine ty_KI ?_
  rw [hk] at ht
  subst ht
  refine ty_iload (pc := 437) (i := 5) (ks := []) (by decide +kernel) rfl ?_
  -- at 439: .if_icmp .eq 5
  refine ty_icmp_eq (pc := 439) (off := 5) (t := 444) (ks := []) (by decide +kernel) (by omega) (by omega) (fun hc => ?_) (fun hc => ?_)
  rotate_left
  · exact absurd rfl hc
  clear hc
  refine ty_iload (pc := 444) (i := 5) (ks := []) (by decide +kernel) rfl ?_
  -- at 446: .ifCond .ne 15
  refine ty_if_ne (pc := 446) (off := 15) (t := 461) (ks := []) (by decide +kernel) (by omega) (fun hc => ?_) (fun hc => ?_)
  · refine ty_goto (pc := 461) (off := 28) (t := 489) (ks := []) (by decide +kernel) ?_
    -- at 489: .iinc 4 3
    exact cont
  · have hk0 := hc
    clear hc
    refine ty_aload_n (pc := 449) (i := 3) (ks := []) (by decide +kernel) rfl ?_
    refine ty_iconst (pc := 450) (n := 0) (ks := []) (by decide +kernel) ?_
    -- at 451: .laload
    refine ty_laload (pc := 451) (ks := []) (by decide +kernel) (by first | rfl | assumption) (by rfl) (by first | exact hS.1 _ _ rfl | assumption) (by first | exact hS.2.1 _ _ _ rfl | assumption) (by omega) (fun v hv => ?_)
    have hv2 : v = (ty_J z).toInt64 := hv.symm.trans (hz hk0)
    clear hv
    subst hv2
    refine ty_iload (pc := 452) (i := 6) (ks := []) (by decide +kernel) rfl ?_
    refine ty_pure (pc := 454) (ins := .i2l) (ks := []) (by decide +kernel) rfl ?_
    -- at 455: .lcmp
    refine ty_lcmp (pc := 455) (ks := []) (by decide +kernel) ?_
    refine ty_if_eq (pc := 456) (off := 5) (t := 461) (ks := []) (by decide +kernel) (by omega) (fun hc => ?_) (fun hc => ?_)
    rotate_left
    · exact absurd rfl hc
    clear hc
    refine ty_goto (pc := 461) (off := 28) (t := 489) (ks := []) (by decide +kernel) ?_
    -- at 489: .iinc 4 3
    exact cont
end LWT
