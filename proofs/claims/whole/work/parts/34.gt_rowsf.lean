/-! Rows checked. -/
theorem gt_r115 : gt_t115.all (ai_chk gt_Fk gt_C6 gt_Wr 13 false 115 prog_14_method_42_code []) = true := by decide +kernel
theorem gt_r116 : gt_t116.all (ai_chk gt_Fk gt_C6 gt_Wr 13 false 116 prog_14_method_15_code []) = true := by decide +kernel
theorem gt_r117 : gt_t117.all (ai_chk gt_Fk gt_C6 gt_Wr 13 false 117 prog_14_method_16_code []) = true := by decide +kernel
theorem gt_r118 : gt_t118.all (ai_chk gt_Fk gt_C6 gt_Wr 13 false 118 prog_14_method_21_code []) = true := by decide +kernel
theorem gt_r119 : gt_t119.all (ai_chk gt_Fk gt_C6 gt_Wr 13 false 119 prog_14_method_14_code []) = true := by decide +kernel
theorem gt_r120 : gt_t120.all (ai_chk gt_Fk gt_C6 gt_Wr 13 false 120 prog_14_method_20_code []) = true := by decide +kernel
theorem gt_r121 : gt_t121.all (ai_chk gt_Fk gt_C6 gt_Wr 13 false 121 prog_14_method_18_code []) = true := by decide +kernel
theorem gt_r122 : gt_t122.all (ai_chk gt_Fk gt_C6 gt_Wr 13 false 122 prog_14_method_17_code []) = true := by decide +kernel
theorem gt_r123 : gt_t123.all (ai_chk gt_Fk gt_C6 gt_Wr 13 false 123 prog_14_method_19_code []) = true := by decide +kernel
theorem gt_r124 : gt_t124.all (ai_chk gt_Fk gt_C6 gt_Wr 13 false 124 prog_14_method_41_code []) = true := by decide +kernel
theorem gt_r125 : gt_t125.all (ai_chk gt_Fk gt_C6 gt_Wr 13 false 125 prog_14_method_36_code []) = true := by decide +kernel
theorem gt_r126 : gt_t126.all (ai_chk gt_Fk gt_C6 gt_Wr 13 false 126 prog_14_method_33_code []) = true := by decide +kernel
theorem gt_r127 : gt_t127.all (ai_chk gt_Fk gt_C6 gt_Wr 13 false 127 prog_14_method_32_code []) = true := by decide +kernel
