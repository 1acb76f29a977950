/-! the law's code checked -/
theorem lw_ok14_0 : (ml_L_law_14.take 20).all (mg_chkE 9 false 10 10 false mc_L_lawb code) = true := by decide +kernel
theorem lw_ok14_1 : ((ml_L_law_14.drop 20).take 20).all (mg_chkE 9 false 10 10 false mc_L_lawb code) = true := by decide +kernel
theorem lw_ok14_2 : ((ml_L_law_14.drop 40).take 20).all (mg_chkE 9 false 10 10 false mc_L_lawb code) = true := by decide +kernel
theorem lw_ok14_3 : ((ml_L_law_14.drop 60).take 20).all (mg_chkE 9 false 10 10 false mc_L_lawb code) = true := by decide +kernel
theorem lw_ok14_4 : (ml_L_law_14.drop 80).all (mg_chkE 9 false 10 10 false mc_L_lawb code) = true := by decide +kernel
theorem lw_ok14 : ml_L_law_14.all (mg_chkE 9 false 10 10 false mc_L_lawb code) = true := by
  have e : ml_L_law_14 = ml_L_law_14.take 20 ++ ((ml_L_law_14.drop 20).take 20 ++ ((ml_L_law_14.drop 40).take 20 ++ ((ml_L_law_14.drop 60).take 20 ++ ml_L_law_14.drop 80))) := rfl
  rw [e, List.all_append, List.all_append, List.all_append, List.all_append, lw_ok14_0, lw_ok14_1, lw_ok14_2, lw_ok14_3, lw_ok14_4]
  rfl
theorem lw_okA : mc_L_lawb.1.all (mg_chkE 9 false 10 10 false mc_L_lawb code) = true := by
  show (ml_L_law_0b ++ (ml_L_law_1 ++ (ml_L_law_2 ++ (ml_L_law_3 ++ (ml_L_law_4 ++ (ml_L_law_5 ++ (ml_L_law_6 ++ (ml_L_law_7 ++ (ml_L_law_8 ++ (ml_L_law_9 ++ (ml_L_law_10 ++ (ml_L_law_11 ++ (ml_L_law_12 ++ (ml_L_law_13 ++ ml_L_law_14)))))))))))))).all _ = true
  rw [List.all_append, List.all_append, List.all_append, List.all_append, List.all_append, List.all_append, List.all_append, List.all_append, List.all_append, List.all_append, List.all_append, List.all_append, List.all_append, List.all_append, lw_ok0, lw_ok1, lw_ok2, lw_ok3, lw_ok4, lw_ok5, lw_ok6, lw_ok7, lw_ok8, lw_ok9, lw_ok10, lw_ok11, lw_ok12, lw_ok13, lw_ok14]
  rfl
