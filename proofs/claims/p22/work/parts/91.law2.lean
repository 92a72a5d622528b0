theorem lz_c18 : chkX lz_e 3000 60 mL_law lz_a [18] 686 lz_s 3 1082808 [lz_p] = true := by decide +kernel
theorem lz_c19 : chkX lz_e 3000 60 mL_law lz_a [18] 745 lz_s 3 1082808 [lz_p] = true := by decide +kernel
theorem lz_c21 : chkX lz_e 3000 60 mL_law lz_a [18] 791 lz_s 3 1082808 [lz_p] = true := by decide +kernel
theorem lz_c22 : chkX lz_e 3000 60 mL_law lz_a [18] 824 lz_s 3 1082808 [lz_p] = true := by decide +kernel
theorem lz_c23 : chkX lz_e 3000 60 mL_law lz_a [18] 867 lz_s 3 1082808 [lz_p] = true := by decide +kernel
theorem lz_c24 : chkX lz_e 3000 60 mL_law lz_a [18] 890 lz_s 3 1082808 [lz_p] = true := by decide +kernel
theorem lz_c25 : chkX lz_e 3000 60 mL_law lz_a [18] 913 lz_s 3 1082808 [lz_p] = true := by decide +kernel
