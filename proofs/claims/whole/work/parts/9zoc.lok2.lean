/-! the law's code checked -/
theorem lw_ok5 : ml_L_law_5.all (mg_chkE 9 false 10 10 false mc_L_lawb code) = true := by decide +kernel
theorem lw_ok6 : ml_L_law_6.all (mg_chkE 9 false 10 10 false mc_L_lawb code) = true := by decide +kernel
theorem lw_ok7 : ml_L_law_7.all (mg_chkE 9 false 10 10 false mc_L_lawb code) = true := by decide +kernel
theorem lw_ok8 : ml_L_law_8.all (mg_chkE 9 false 10 10 false mc_L_lawb code) = true := by decide +kernel
