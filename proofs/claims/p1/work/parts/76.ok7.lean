/-! ===== the law's table against its bytes, 4 ===== -/
theorem e_539_s132 : (((k_L_law.drop 132).take 4).all fun row => row.all (chkE 539)) = true := by decide +kernel
theorem e_539_s136 : (((k_L_law.drop 136).take 4).all fun row => row.all (chkE 539)) = true := by decide +kernel
theorem e_539_s140 : (((k_L_law.drop 140).take 4).all fun row => row.all (chkE 539)) = true := by decide +kernel
theorem e_539_s144 : (((k_L_law.drop 144).take 4).all fun row => row.all (chkE 539)) = true := by decide +kernel
theorem e_539_s148 : (((k_L_law.drop 148).take 4).all fun row => row.all (chkE 539)) = true := by decide +kernel
theorem e_539_s152 : (((k_L_law.drop 152).take 4).all fun row => row.all (chkE 539)) = true := by decide +kernel
theorem e_539_s156 : (((k_L_law.drop 156).take 4).all fun row => row.all (chkE 539)) = true := by decide +kernel
