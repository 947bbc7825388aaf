/-! Rows checked. -/
theorem gt_r0 : gt_t0.all (ai_chk gt_Fk gt_C6 gt_Wr 0 true 0 prog_1_method_1_code []) = true := by decide +kernel
theorem gt_r1 : gt_t1.all (ai_chk gt_Fk gt_C6 gt_Wr 8 true 1 prog_9_method_1_code []) = true := by decide +kernel
theorem gt_r2 : gt_t2.all (ai_chk gt_Fk gt_C6 gt_Wr 10 true 2 prog_11_method_1_code []) = true := by decide +kernel
theorem gt_r3 : gt_t3.all (ai_chk gt_Fk gt_C6 gt_Wr 3 true 3 prog_4_method_1_code []) = true := by decide +kernel
theorem gt_r4 : gt_t4.all (ai_chk gt_Fk gt_C6 gt_Wr 5 true 4 prog_6_method_1_code []) = true := by decide +kernel
theorem gt_r5 : gt_t5.all (ai_chk gt_Fk gt_C6 gt_Wr 6 true 5 prog_7_method_1_code []) = true := by decide +kernel
theorem gt_r6 : gt_t6.all (ai_chk gt_Fk gt_C6 gt_Wr 16 true 6 prog_28_method_2_code []) = true := by decide +kernel
theorem gt_r7 : gt_t7.all (ai_chk gt_Fk gt_C6 gt_Wr 15 true 7 prog_27_method_1_code []) = true := by decide +kernel
theorem gt_r8 : gt_t8.all (ai_chk gt_Fk gt_C6 gt_Wr 14 true 8 prog_26_method_1_code []) = true := by decide +kernel
theorem gt_r9 : gt_t9.all (ai_chk gt_Fk gt_C6 gt_Wr 7 true 9 prog_8_method_1_code []) = true := by decide +kernel
theorem gt_r10 : gt_t10.all (ai_chk gt_Fk gt_C6 gt_Wr 4 true 10 prog_5_method_1_code []) = true := by decide +kernel
theorem gt_r11 : gt_t11.all (ai_chk gt_Fk gt_C6 gt_Wr 1 true 11 prog_2_method_1_code []) = true := by decide +kernel
theorem gt_r12 : gt_t12.all (ai_chk gt_Fk gt_C6 gt_Wr 11 true 12 prog_12_method_1_code []) = true := by decide +kernel
theorem gt_r13 : gt_t13.all (ai_chk gt_Fk gt_C6 gt_Wr 0 false 13 prog_1_method_9_code []) = true := by decide +kernel
theorem gt_r14 : gt_t14.all (ai_chk gt_Fk gt_C6 gt_Wr 1 false 14 prog_2_method_7_code []) = true := by decide +kernel
theorem gt_r15 : gt_t15.all (ai_chk gt_Fk gt_C6 gt_Wr 12 false 15 method_3_code [(0, 9, 12, 13), (0, 9, 16, 15)]) = true := by decide +kernel
theorem gt_r16 : gt_t16.all (ai_chk gt_Fk gt_C6 gt_Wr 0 false 16 prog_1_method_2_code []) = true := by decide +kernel
theorem gt_r17 : gt_t17.all (ai_chk gt_Fk gt_C6 gt_Wr 12 false 17 method_4_code [(0, 8, 11, 13), (0, 8, 14, 15)]) = true := by decide +kernel
theorem gt_r18 : gt_t18.all (ai_chk gt_Fk gt_C6 gt_Wr 0 false 18 prog_1_method_3_code []) = true := by decide +kernel
theorem gt_r19 : gt_t19.all (ai_chk gt_Fk gt_C6 gt_Wr 5 false 19 prog_6_method_2_code []) = true := by decide +kernel
theorem gt_r20 : gt_t20.all (ai_chk gt_Fk gt_C6 gt_Wr 5 false 20 prog_6_method_4_code []) = true := by decide +kernel
theorem gt_r21 : gt_t21.all (ai_chk gt_Fk gt_C6 gt_Wr 5 false 21 prog_6_method_5_code []) = true := by decide +kernel
theorem gt_r22 : gt_t22.all (ai_chk gt_Fk gt_C6 gt_Wr 0 false 22 prog_1_method_12_code []) = true := by decide +kernel
theorem gt_r23 : gt_t23.all (ai_chk gt_Fk gt_C6 gt_Wr 5 false 23 prog_6_method_9_code []) = true := by decide +kernel
theorem gt_r24 : gt_t24.all (ai_chk gt_Fk gt_C6 gt_Wr 0 false 24 prog_1_method_10_code []) = true := by decide +kernel
