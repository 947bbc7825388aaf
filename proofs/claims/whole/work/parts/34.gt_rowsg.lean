/-! Rows checked. -/
theorem gt_r128 : gt_t128.all (ai_chk gt_Fk gt_C6 gt_Wr 13 false 128 prog_14_method_23_code []) = true := by decide +kernel
theorem gt_r129 : gt_t129.all (ai_chk gt_Fk gt_C6 gt_Wr 13 false 129 prog_14_method_34_code []) = true := by decide +kernel
theorem gt_r130 : gt_t130.all (ai_chk gt_Fk gt_C6 gt_Wr 13 false 130 prog_14_method_28_code []) = true := by decide +kernel
theorem gt_r131 : gt_t131.all (ai_chk gt_Fk gt_C6 gt_Wr 13 false 131 prog_14_method_31_code []) = true := by decide +kernel
theorem gt_r132 : gt_t132.all (ai_chk gt_Fk gt_C6 gt_Wr 13 false 132 prog_14_method_29_code []) = true := by decide +kernel
theorem gt_r133 : gt_t133.all (ai_chk gt_Fk gt_C6 gt_Wr 13 false 133 prog_14_method_25_code []) = true := by decide +kernel
theorem gt_r134 : gt_t134.all (ai_chk gt_Fk gt_C6 gt_Wr 13 false 134 prog_14_method_24_code []) = true := by decide +kernel
theorem gt_r135 : gt_t135.all (ai_chk gt_Fk gt_C6 gt_Wr 13 false 135 prog_14_method_26_code []) = true := by decide +kernel
theorem gt_r136 : gt_t136.all (ai_chk gt_Fk gt_C6 gt_Wr 13 false 136 prog_14_method_22_code []) = true := by decide +kernel
theorem gt_r137 : gt_t137.all (ai_chk gt_Fk gt_C6 gt_Wr 13 false 137 prog_14_method_27_code []) = true := by decide +kernel
theorem gt_r138 : gt_t138.all (ai_chk gt_Fk gt_C6 gt_Wr 13 false 138 prog_14_method_30_code []) = true := by decide +kernel
theorem gt_r139 : gt_t139.all (ai_chk gt_Fk gt_C6 gt_Wr 13 false 139 prog_14_method_40_code []) = true := by decide +kernel
