set_option maxRecDepth 1000000 in
theorem rz_ok_186 : rz_ck rz_kt 100000 186 = true := by decide +kernel
