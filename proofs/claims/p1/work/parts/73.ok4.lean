/-! ===== the law's table against its bytes, 1 ===== -/
theorem e_539_0 : (((k_L_law.drop 0).take 12).all fun row => row.all (chkE 539)) = true := by decide +kernel
theorem e_539_1 : (((k_L_law.drop 12).take 12).all fun row => row.all (chkE 539)) = true := by decide +kernel
theorem e_539_2 : (((k_L_law.drop 24).take 12).all fun row => row.all (chkE 539)) = true := by decide +kernel
theorem e_539_3 : (((k_L_law.drop 36).take 12).all fun row => row.all (chkE 539)) = true := by decide +kernel
