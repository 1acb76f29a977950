/-! the law's code checked -/
theorem lw_ok0 : ml_L_law_0b.all (mg_chkE 9 false 10 10 false mc_L_lawb code) = true := by decide +kernel
theorem lw_ok1 : ml_L_law_1.all (mg_chkE 9 false 10 10 false mc_L_lawb code) = true := by decide +kernel
theorem lw_ok2 : ml_L_law_2.all (mg_chkE 9 false 10 10 false mc_L_lawb code) = true := by decide +kernel
theorem lw_ok3 : ml_L_law_3.all (mg_chkE 9 false 10 10 false mc_L_lawb code) = true := by decide +kernel
theorem lw_ok4 : ml_L_law_4.all (mg_chkE 9 false 10 10 false mc_L_lawb code) = true := by decide +kernel
