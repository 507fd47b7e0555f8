set_option maxRecDepth 1000000 in
theorem rz_ckd_242 : rz_ck rz_kt 100000 242 = true := by decide +kernel
