theorem lw_c18 : chkX lw_e 3000 60 mL_law lw_a [18] 686 lw_s 3 1082808 [lw_p] = true := by decide +kernel
theorem lw_c19 : chkX lw_e 3000 60 mL_law lw_a [18] 745 lw_s 3 1082808 [lw_p] = true := by decide +kernel
theorem lw_c21 : chkX lw_e 3000 60 mL_law lw_a [18] 791 lw_s 3 1082808 [lw_p] = true := by decide +kernel
theorem lw_c22 : chkX lw_e 3000 60 mL_law lw_a [18] 824 lw_s 3 1082808 [lw_p] = true := by decide +kernel
theorem lw_c23 : chkX lw_e 3000 60 mL_law lw_a [18] 867 lw_s 3 1082808 [lw_p] = true := by decide +kernel
theorem lw_c24 : chkX lw_e 3000 60 mL_law lw_a [18] 890 lw_s 3 1082808 [lw_p] = true := by decide +kernel
theorem lw_c25 : chkX lw_e 3000 60 mL_law lw_a [18] 913 lw_s 3 1082808 [lw_p] = true := by decide +kernel
