/-! Rows checked. -/
theorem gt_r140 : gt_t140.all (ai_chk gt_Fk gt_C6 gt_Wr 13 false 140 prog_14_method_35_code []) = true := by decide +kernel
theorem gt_r141 : gt_t141.all (ai_chk gt_Fk gt_C6 gt_Wr 13 false 141 prog_14_method_37_code []) = true := by decide +kernel
theorem gt_r142 : gt_t142.all (ai_chk gt_Fk gt_C6 gt_Wr 13 false 142 prog_14_method_38_code []) = true := by decide +kernel
theorem gt_r143 : gt_t143.all (ai_chk gt_Fk gt_C6 gt_Wr 13 false 143 prog_14_method_39_code []) = true := by decide +kernel
theorem gt_r144 : gt_t144.all (ai_chk gt_Fk gt_C6 gt_Wr 13 false 144 prog_14_method_43_code []) = true := by decide +kernel
theorem gt_r145 : gt_t145.all (ai_chk gt_Fk gt_C6 gt_Wr 13 false 145 prog_14_method_46_code []) = true := by decide +kernel
theorem gt_r146 : gt_t146.all (ai_chk gt_Fk gt_C6 gt_Wr 13 false 146 prog_14_method_45_code []) = true := by decide +kernel
theorem gt_r147 : gt_t147.all (ai_chk gt_Fk gt_C6 gt_Wr 13 false 147 prog_14_method_44_code []) = true := by decide +kernel
theorem gt_r148 : gt_t148.all (ai_chk gt_Fk gt_C6 gt_Wr 13 false 148 prog_14_method_47_code []) = true := by decide +kernel
theorem gt_r149 : gt_t149.all (ai_chk gt_Fk gt_C6 gt_Wr 13 false 149 prog_14_method_48_code []) = true := by decide +kernel
theorem gt_r150 : gt_t150.all (ai_chk gt_Fk gt_C6 gt_Wr 12 false 150 code []) = true := by decide +kernel
