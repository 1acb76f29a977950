/-! the law's code checked -/
theorem lw_ok9 : ml_L_law_9.all (mg_chkE 9 false 10 10 false mc_L_lawb code) = true := by decide +kernel
theorem lw_ok10 : ml_L_law_10.all (mg_chkE 9 false 10 10 false mc_L_lawb code) = true := by decide +kernel
theorem lw_ok11 : ml_L_law_11.all (mg_chkE 9 false 10 10 false mc_L_lawb code) = true := by decide +kernel
