set_option maxRecDepth 1000000 in
theorem rz_ckd_56 : rz_ck rz_kt 100000 56 = true := by decide +kernel
set_option maxRecDepth 1000000 in
theorem rz_ckd_57 : rz_ck rz_kt 100000 57 = true := by decide +kernel
set_option maxRecDepth 1000000 in
theorem rz_ckd_58 : rz_ck rz_kt 100000 58 = true := by decide +kernel
set_option maxRecDepth 1000000 in
theorem rz_ckd_59 : rz_ck rz_kt 100000 59 = true := by decide +kernel
set_option maxRecDepth 1000000 in
theorem rz_ckd_60 : rz_ck rz_kt 100000 60 = true := by decide +kernel
set_option maxRecDepth 1000000 in
theorem rz_ckd_61 : rz_ck rz_kt 100000 61 = true := by decide +kernel
set_option maxRecDepth 1000000 in
theorem rz_ckd_62 : rz_ck rz_kt 100000 62 = true := by decide +kernel
set_option maxRecDepth 1000000 in
theorem rz_ckd_63 : rz_ck rz_kt 100000 63 = true := by decide +kernel
set_option maxRecDepth 1000000 in
theorem rz_ckd_64 : rz_ck rz_kt 100000 64 = true := by decide +kernel
set_option maxRecDepth 1000000 in
theorem rz_ckd_65 : rz_ck rz_kt 100000 65 = true := by decide +kernel
