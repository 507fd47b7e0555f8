set_option maxRecDepth 1000000 in
theorem rz_ckd_28 : rz_ck rz_kt 100000 28 = true := by decide +kernel
set_option maxRecDepth 1000000 in
theorem rz_ckd_29 : rz_ck rz_kt 100000 29 = true := by decide +kernel
set_option maxRecDepth 1000000 in
theorem rz_ckd_30 : rz_ck rz_kt 100000 30 = true := by decide +kernel
set_option maxRecDepth 1000000 in
theorem rz_ckd_31 : rz_ck rz_kt 100000 31 = true := by decide +kernel
set_option maxRecDepth 1000000 in
theorem rz_ckd_32 : rz_ck rz_kt 100000 32 = true := by decide +kernel
set_option maxRecDepth 1000000 in
theorem rz_ckd_33 : rz_ck rz_kt 100000 33 = true := by decide +kernel
set_option maxRecDepth 1000000 in
theorem rz_ckd_34 : rz_ck rz_kt 100000 34 = true := by decide +kernel
set_option maxRecDepth 1000000 in
theorem rz_ckd_35 : rz_ck rz_kt 100000 35 = true := by decide +kernel
set_option maxRecDepth 1000000 in
theorem rz_ckd_36 : rz_ck rz_kt 100000 36 = true := by decide +kernel
set_option maxRecDepth 1000000 in
theorem rz_ckd_37 : rz_ck rz_kt 100000 37 = true := by decide +kernel
set_option maxRecDepth 1000000 in
theorem rz_ckd_38 : rz_ck rz_kt 100000 38 = true := by decide +kernel
set_option maxRecDepth 1000000 in
theorem rz_ckd_39 : rz_ck rz_kt 100000 39 = true := by decide +kernel
set_option maxRecDepth 1000000 in
theorem rz_ckd_40 : rz_ck rz_kt 100000 40 = true := by decide +kernel
set_option maxRecDepth 1000000 in
theorem rz_ckd_41 : rz_ck rz_kt 100000 41 = true := by decide +kernel
