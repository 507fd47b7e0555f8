set_option maxRecDepth 1000000 in
theorem rz_ckd_0 : rz_ck rz_kt 100000 0 = true := by decide +kernel
set_option maxRecDepth 1000000 in
theorem rz_ckd_1 : rz_ck rz_kt 100000 1 = true := by decide +kernel
set_option maxRecDepth 1000000 in
theorem rz_ckd_2 : rz_ck rz_kt 100000 2 = true := by decide +kernel
set_option maxRecDepth 1000000 in
theorem rz_ckd_3 : rz_ck rz_kt 100000 3 = true := by decide +kernel
set_option maxRecDepth 1000000 in
theorem rz_ckd_4 : rz_ck rz_kt 100000 4 = true := by decide +kernel
set_option maxRecDepth 1000000 in
theorem rz_ckd_5 : rz_ck rz_kt 100000 5 = true := by decide +kernel
set_option maxRecDepth 1000000 in
theorem rz_ckd_6 : rz_ck rz_kt 100000 6 = true := by decide +kernel
set_option maxRecDepth 1000000 in
theorem rz_ckd_7 : rz_ck rz_kt 100000 7 = true := by decide +kernel
set_option maxRecDepth 1000000 in
theorem rz_ckd_8 : rz_ck rz_kt 100000 8 = true := by decide +kernel
set_option maxRecDepth 1000000 in
theorem rz_ckd_9 : rz_ck rz_kt 100000 9 = true := by decide +kernel
set_option maxRecDepth 1000000 in
theorem rz_ckd_10 : rz_ck rz_kt 100000 10 = true := by decide +kernel
set_option maxRecDepth 1000000 in
theorem rz_ckd_11 : rz_ck rz_kt 100000 11 = true := by decide +kernel
set_option maxRecDepth 1000000 in
theorem rz_ckd_12 : rz_ck rz_kt 100000 12 = true := by decide +kernel
set_option maxRecDepth 1000000 in
theorem rz_ckd_13 : rz_ck rz_kt 100000 13 = true := by decide +kernel
