/-! Rows checked. -/
theorem gt_r78 : gt_t78.all (ai_chk gt_Fk gt_C6 gt_Wr 6 false 78 prog_7_method_6_code []) = true := by decide +kernel
theorem gt_r79 : gt_t79.all (ai_chk gt_Fk gt_C6 gt_Wr 10 false 79 prog_11_method_7_code []) = true := by decide +kernel
theorem gt_r80 : gt_t80.all (ai_chk gt_Fk gt_C6 gt_Wr 10 false 80 prog_11_method_8_code []) = true := by decide +kernel
theorem gt_r81 : gt_t81.all (ai_chk gt_Fk gt_C6 gt_Wr 6 false 81 prog_7_method_10_code []) = true := by decide +kernel
theorem gt_r82 : gt_t82.all (ai_chk gt_Fk gt_C6 gt_Wr 10 false 82 prog_11_method_6_code []) = true := by decide +kernel
theorem gt_r83 : gt_t83.all (ai_chk gt_Fk gt_C6 gt_Wr 10 false 83 prog_11_method_9_code []) = true := by decide +kernel
theorem gt_r84 : gt_t84.all (ai_chk gt_Fk gt_C6 gt_Wr 1 false 84 prog_2_method_6_code []) = true := by decide +kernel
theorem gt_r85 : gt_t85.all (ai_chk gt_Fk gt_C6 gt_Wr 4 false 85 prog_5_method_5_code []) = true := by decide +kernel
theorem gt_r86 : gt_t86.all (ai_chk gt_Fk gt_C6 gt_Wr 4 false 86 prog_5_method_6_code []) = true := by decide +kernel
theorem gt_r87 : gt_t87.all (ai_chk gt_Fk gt_C6 gt_Wr 10 false 87 prog_11_method_5_code []) = true := by decide +kernel
theorem gt_r88 : gt_t88.all (ai_chk gt_Fk gt_C6 gt_Wr 4 false 88 prog_5_method_7_code []) = true := by decide +kernel
theorem gt_r89 : gt_t89.all (ai_chk gt_Fk gt_C6 gt_Wr 1 false 89 prog_2_method_4_code []) = true := by decide +kernel
theorem gt_r90 : gt_t90.all (ai_chk gt_Fk gt_C6 gt_Wr 1 false 90 prog_2_method_5_code []) = true := by decide +kernel
theorem gt_r91 : gt_t91.all (ai_chk gt_Fk gt_C6 gt_Wr 6 false 91 prog_7_method_12_code []) = true := by decide +kernel
theorem gt_r92 : gt_t92.all (ai_chk gt_Fk gt_C6 gt_Wr 12 false 92 method_7_code [(0, 8, 11, 28), (0, 8, 14, 15), (0, 8, 17, 30)]) = true := by decide +kernel
theorem gt_r93 : gt_t93.all (ai_chk gt_Fk gt_C6 gt_Wr 0 false 93 prog_1_method_6_code []) = true := by decide +kernel
theorem gt_r94 : gt_t94.all (ai_chk gt_Fk gt_C6 gt_Wr 12 false 94 method_8_code [(0, 10, 13, 13), (0, 10, 17, 28)]) = true := by decide +kernel
theorem gt_r95 : gt_t95.all (ai_chk gt_Fk gt_C6 gt_Wr 0 false 95 prog_1_method_7_code []) = true := by decide +kernel
theorem gt_r96 : gt_t96.all (ai_chk gt_Fk gt_C6 gt_Wr 11 false 96 prog_12_method_2_code []) = true := by decide +kernel
theorem gt_r97 : gt_t97.all (ai_chk gt_Fk gt_C6 gt_Wr 11 false 97 prog_12_method_4_code []) = true := by decide +kernel
