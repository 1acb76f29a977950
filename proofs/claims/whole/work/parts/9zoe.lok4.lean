/-! the law's code checked -/
theorem lw_ok12_0 : (ml_L_law_12.take 20).all (mg_chkE 9 false 10 10 false mc_L_lawb code) = true := by decide +kernel
theorem lw_ok12_1 : ((ml_L_law_12.drop 20).take 20).all (mg_chkE 9 false 10 10 false mc_L_lawb code) = true := by decide +kernel
theorem lw_ok12_2 : ((ml_L_law_12.drop 40).take 20).all (mg_chkE 9 false 10 10 false mc_L_lawb code) = true := by decide +kernel
theorem lw_ok12_3 : ((ml_L_law_12.drop 60).take 20).all (mg_chkE 9 false 10 10 false mc_L_lawb code) = true := by decide +kernel
theorem lw_ok12_4 : (ml_L_law_12.drop 80).all (mg_chkE 9 false 10 10 false mc_L_lawb code) = true := by decide +kernel
theorem lw_ok12 : ml_L_law_12.all (mg_chkE 9 false 10 10 false mc_L_lawb code) = true := by
  have e : ml_L_law_12 = ml_L_law_12.take 20 ++ ((ml_L_law_12.drop 20).take 20 ++ ((ml_L_law_12.drop 40).take 20 ++ ((ml_L_law_12.drop 60).take 20 ++ ml_L_law_12.drop 80))) := rfl
  rw [e, List.all_append, List.all_append, List.all_append, List.all_append, lw_ok12_0, lw_ok12_1, lw_ok12_2, lw_ok12_3, lw_ok12_4]
  rfl
theorem lw_ok13_0 : (ml_L_law_13.take 20).all (mg_chkE 9 false 10 10 false mc_L_lawb code) = true := by decide +kernel
theorem lw_ok13_1 : ((ml_L_law_13.drop 20).take 20).all (mg_chkE 9 false 10 10 false mc_L_lawb code) = true := by decide +kernel
theorem lw_ok13_2 : ((ml_L_law_13.drop 40).take 20).all (mg_chkE 9 false 10 10 false mc_L_lawb code) = true := by decide +kernel
theorem lw_ok13_3 : ((ml_L_law_13.drop 60).take 20).all (mg_chkE 9 false 10 10 false mc_L_lawb code) = true := by decide +kernel
theorem lw_ok13_4 : (ml_L_law_13.drop 80).all (mg_chkE 9 false 10 10 false mc_L_lawb code) = true := by decide +kernel
theorem lw_ok13 : ml_L_law_13.all (mg_chkE 9 false 10 10 false mc_L_lawb code) = true := by
  have e : ml_L_law_13 = ml_L_law_13.take 20 ++ ((ml_L_law_13.drop 20).take 20 ++ ((ml_L_law_13.drop 40).take 20 ++ ((ml_L_law_13.drop 60).take 20 ++ ml_L_law_13.drop 80))) := rfl
  rw [e, List.all_append, List.all_append, List.all_append, List.all_append, lw_ok13_0, lw_ok13_1, lw_ok13_2, lw_ok13_3, lw_ok13_4]
  rfl
