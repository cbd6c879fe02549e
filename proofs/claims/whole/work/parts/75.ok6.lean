/-! ===== the law's table against its bytes, 3 ===== -/
theorem e_539_s96 : (((k_L_law.drop 96).take 4).all fun row => row.all (chkE 539)) = true := by decide +kernel
theorem e_539_s100 : (((k_L_law.drop 100).take 4).all fun row => row.all (chkE 539)) = true := by decide +kernel
theorem e_539_s104 : (((k_L_law.drop 104).take 4).all fun row => row.all (chkE 539)) = true := by decide +kernel
theorem e_539_s108 : (((k_L_law.drop 108).take 4).all fun row => row.all (chkE 539)) = true := by decide +kernel
theorem e_539_s112 : (((k_L_law.drop 112).take 4).all fun row => row.all (chkE 539)) = true := by decide +kernel
theorem e_539_s116 : (((k_L_law.drop 116).take 4).all fun row => row.all (chkE 539)) = true := by decide +kernel
theorem e_539_s120 : (((k_L_law.drop 120).take 4).all fun row => row.all (chkE 539)) = true := by decide +kernel
theorem e_539_s124 : (((k_L_law.drop 124).take 4).all fun row => row.all (chkE 539)) = true := by decide +kernel
theorem e_539_s128 : (((k_L_law.drop 128).take 4).all fun row => row.all (chkE 539)) = true := by decide +kernel
