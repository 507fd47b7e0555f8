set_option maxRecDepth 1000000 in
theorem rz_ckd_86 : rz_ck rz_kt 100000 86 = true := by decide +kernel
