/-! ===== the law's table against its bytes, 5 ===== -/
theorem e_539_s160 : (((k_L_law.drop 160).take 4).all fun row => row.all (chkE 539)) = true := by decide +kernel
theorem e_539_s164 : (((k_L_law.drop 164).take 4).all fun row => row.all (chkE 539)) = true := by decide +kernel
theorem e_539_s168 : (((k_L_law.drop 168).take 4).all fun row => row.all (chkE 539)) = true := by decide +kernel
theorem e_539_s172 : (((k_L_law.drop 172).take 4).all fun row => row.all (chkE 539)) = true := by decide +kernel
theorem e_539_s176 : (((k_L_law.drop 176).take 4).all fun row => row.all (chkE 539)) = true := by decide +kernel
