set_option maxRecDepth 1000000 in
theorem rz_ckd_66 : rz_ck rz_kt 100000 66 = true := by decide +kernel
