/-! Rows checked. -/
theorem gt_r25 : gt_t25.all (ai_chk gt_Fk gt_C6 gt_Wr 0 false 25 prog_1_method_11_code []) = true := by decide +kernel
theorem gt_r26 : gt_t26.all (ai_chk gt_Fk gt_C6 gt_Wr 5 false 26 prog_6_method_10_code []) = true := by decide +kernel
theorem gt_r27 : gt_t27.all (ai_chk gt_Fk gt_C6 gt_Wr 5 false 27 prog_6_method_6_code []) = true := by decide +kernel
theorem gt_r28 : gt_t28.all (ai_chk gt_Fk gt_C6 gt_Wr 5 false 28 prog_6_method_7_code []) = true := by decide +kernel
theorem gt_r29 : gt_t29.all (ai_chk gt_Fk gt_C6 gt_Wr 5 false 29 prog_6_method_8_code []) = true := by decide +kernel
theorem gt_r30 : gt_t30.all (ai_chk gt_Fk gt_C6 gt_Wr 3 false 30 prog_4_method_2_code []) = true := by decide +kernel
theorem gt_r31 : gt_t31.all (ai_chk gt_Fk gt_C6 gt_Wr 5 false 31 prog_6_method_11_code []) = true := by decide +kernel
theorem gt_r32 : gt_t32.all (ai_chk gt_Fk gt_C6 gt_Wr 17 false 32 prog_29_method_103_code []) = true := by decide +kernel
theorem gt_r33 : gt_t33.all (ai_chk gt_Fk gt_C6 gt_Wr 12 false 33 method_5_code [(0, 5, 8, 13)]) = true := by decide +kernel
theorem gt_r34 : gt_t34.all (ai_chk gt_Fk gt_C6 gt_Wr 0 false 34 prog_1_method_4_code []) = true := by decide +kernel
theorem gt_r35 : gt_t35.all (ai_chk gt_Fk gt_C6 gt_Wr 12 false 35 method_6_code [(0, 8, 11, 13), (0, 8, 14, 28), (0, 8, 17, 15), (0, 8, 20, 30)]) = true := by decide +kernel
theorem gt_r36 : gt_t36.all (ai_chk gt_Fk gt_C6 gt_Wr 0 false 36 prog_1_method_5_code []) = true := by decide +kernel
theorem gt_r37 : gt_t37.all (ai_chk gt_Fk gt_C6 gt_Wr 5 false 37 prog_6_method_3_code []) = true := by decide +kernel
theorem gt_r38 : gt_t38.all (ai_chk gt_Fk gt_C6 gt_Wr 6 false 38 prog_7_method_2_code []) = true := by decide +kernel
theorem gt_r39 : gt_t39.all (ai_chk gt_Fk gt_C6 gt_Wr 10 false 39 prog_11_method_2_code []) = true := by decide +kernel
theorem gt_r40 : gt_t40.all (ai_chk gt_Fk gt_C6 gt_Wr 1 false 40 prog_2_method_2_code []) = true := by decide +kernel
theorem gt_r41 : gt_t41.all (ai_chk gt_Fk gt_C6 gt_Wr 10 false 41 prog_11_method_3_code []) = true := by decide +kernel
theorem gt_r42 : gt_t42.all (ai_chk gt_Fk gt_C6 gt_Wr 17 false 42 prog_29_method_123_code []) = true := by decide +kernel
theorem gt_r43 : gt_t43.all (ai_chk gt_Fk gt_C6 gt_Wr 6 false 43 prog_7_method_13_code []) = true := by decide +kernel
theorem gt_r44 : gt_t44.all (ai_chk gt_Fk gt_C6 gt_Wr 8 false 44 prog_9_method_2_code []) = true := by decide +kernel
theorem gt_r45 : gt_t45.all (ai_chk gt_Fk gt_C6 gt_Wr 6 false 45 prog_7_method_14_code []) = true := by decide +kernel
