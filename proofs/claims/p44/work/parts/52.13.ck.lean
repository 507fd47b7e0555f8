set_option maxRecDepth 1000000 in
theorem rz_ok_241 : rz_ck rz_kt 100000 241 = true := by decide +kernel
