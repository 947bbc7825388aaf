/-! Rows checked. -/
theorem gt_r98 : gt_t98.all (ai_chk gt_Fk gt_C6 gt_Wr 11 false 98 prog_12_method_3_code []) = true := by decide +kernel
theorem gt_r99 : gt_t99.all (ai_chk gt_Fk gt_C6 gt_Wr 12 false 99 method_9_code [(0, 9, 12, 13)]) = true := by decide +kernel
theorem gt_r100 : gt_t100.all (ai_chk gt_Fk gt_C6 gt_Wr 0 false 100 prog_1_method_8_code []) = true := by decide +kernel
theorem gt_r101 : gt_t101.all (ai_chk gt_Fk gt_C6 gt_Wr 10 false 101 prog_11_method_10_code []) = true := by decide +kernel
theorem gt_r102 : gt_t102.all (ai_chk gt_Fk gt_C6 gt_Wr 13 true 102 prog_14_method_1_code []) = true := by decide +kernel
theorem gt_r103 : gt_t103.all (ai_chk gt_Fk gt_C6 gt_Wr 13 false 103 prog_14_method_2_code []) = true := by decide +kernel
theorem gt_r104 : gt_t104.all (ai_chk gt_Fk gt_C6 gt_Wr 13 false 104 prog_14_method_6_code []) = true := by decide +kernel
theorem gt_r105 : gt_t105.all (ai_chk gt_Fk gt_C6 gt_Wr 13 false 105 prog_14_method_3_code []) = true := by decide +kernel
theorem gt_r106 : gt_t106.all (ai_chk gt_Fk gt_C6 gt_Wr 13 false 106 prog_14_method_4_code []) = true := by decide +kernel
theorem gt_r107 : gt_t107.all (ai_chk gt_Fk gt_C6 gt_Wr 13 false 107 prog_14_method_5_code []) = true := by decide +kernel
theorem gt_r108 : gt_t108.all (ai_chk gt_Fk gt_C6 gt_Wr 13 false 108 prog_14_method_12_code []) = true := by decide +kernel
theorem gt_r109 : gt_t109.all (ai_chk gt_Fk gt_C6 gt_Wr 13 false 109 prog_14_method_11_code []) = true := by decide +kernel
theorem gt_r110 : gt_t110.all (ai_chk gt_Fk gt_C6 gt_Wr 13 false 110 prog_14_method_9_code []) = true := by decide +kernel
theorem gt_r111 : gt_t111.all (ai_chk gt_Fk gt_C6 gt_Wr 13 false 111 prog_14_method_7_code []) = true := by decide +kernel
theorem gt_r112 : gt_t112.all (ai_chk gt_Fk gt_C6 gt_Wr 13 false 112 prog_14_method_8_code []) = true := by decide +kernel
theorem gt_r113 : gt_t113.all (ai_chk gt_Fk gt_C6 gt_Wr 13 false 113 prog_14_method_10_code []) = true := by decide +kernel
theorem gt_r114 : gt_t114.all (ai_chk gt_Fk gt_C6 gt_Wr 13 false 114 prog_14_method_13_code []) = true := by decide +kernel
