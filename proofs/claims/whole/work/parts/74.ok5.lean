/-! ===== the law's table against its bytes, 2 ===== -/
theorem e_539_4 : (((k_L_law.drop 48).take 12).all fun row => row.all (chkE 539)) = true := by decide +kernel
theorem e_539_5 : (((k_L_law.drop 60).take 12).all fun row => row.all (chkE 539)) = true := by decide +kernel
theorem e_539_6 : (((k_L_law.drop 72).take 12).all fun row => row.all (chkE 539)) = true := by decide +kernel
theorem e_539_7 : (((k_L_law.drop 84).take 12).all fun row => row.all (chkE 539)) = true := by decide +kernel
