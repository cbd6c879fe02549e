/-! ===== the law's table against its bytes, 6 ===== -/
theorem e_539_s180 : (((k_L_law.drop 180).take 4).all fun row => row.all (chkE 539)) = true := by decide +kernel
theorem e_539_s184 : (((k_L_law.drop 184).take 4).all fun row => row.all (chkE 539)) = true := by decide +kernel
theorem e_539_s188 : (((k_L_law.drop 188).take 4).all fun row => row.all (chkE 539)) = true := by decide +kernel
theorem e_539_s192 : (((k_L_law.drop 192).take 4).all fun row => row.all (chkE 539)) = true := by decide +kernel
