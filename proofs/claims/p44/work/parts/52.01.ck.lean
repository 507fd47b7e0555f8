set_option maxRecDepth 1000000 in
theorem rz_ckd_14 : rz_ck rz_kt 100000 14 = true := by decide +kernel
set_option maxRecDepth 1000000 in
theorem rz_ckd_15 : rz_ck rz_kt 100000 15 = true := by decide +kernel
set_option maxRecDepth 1000000 in
theorem rz_ckd_16 : rz_ck rz_kt 100000 16 = true := by decide +kernel
set_option maxRecDepth 1000000 in
theorem rz_ckd_17 : rz_ck rz_kt 100000 17 = true := by decide +kernel
set_option maxRecDepth 1000000 in
theorem rz_ckd_18 : rz_ck rz_kt 100000 18 = true := by decide +kernel
set_option maxRecDepth 1000000 in
theorem rz_ckd_19 : rz_ck rz_kt 100000 19 = true := by decide +kernel
set_option maxRecDepth 1000000 in
theorem rz_ckd_20 : rz_ck rz_kt 100000 20 = true := by decide +kernel
set_option maxRecDepth 1000000 in
theorem rz_ckd_21 : rz_ck rz_kt 100000 21 = true := by decide +kernel
set_option maxRecDepth 1000000 in
theorem rz_ckd_22 : rz_ck rz_kt 100000 22 = true := by decide +kernel
set_option maxRecDepth 1000000 in
theorem rz_ckd_23 : rz_ck rz_kt 100000 23 = true := by decide +kernel
set_option maxRecDepth 1000000 in
theorem rz_ckd_24 : rz_ck rz_kt 100000 24 = true := by decide +kernel
set_option maxRecDepth 1000000 in
theorem rz_ckd_25 : rz_ck rz_kt 100000 25 = true := by decide +kernel
set_option maxRecDepth 1000000 in
theorem rz_ckd_26 : rz_ck rz_kt 100000 26 = true := by decide +kernel
set_option maxRecDepth 1000000 in
theorem rz_ckd_27 : rz_ck rz_kt 100000 27 = true := by decide +kernel
