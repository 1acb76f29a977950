/-! the law's code checked -/
theorem lw_ok12 : ml_L_law_12.all (mg_chkE 9 false 10 10 false mc_L_lawb code) = true := by decide +kernel
theorem lw_ok13 : ml_L_law_13.all (mg_chkE 9 false 10 10 false mc_L_lawb code) = true := by decide +kernel
