set_option maxRecDepth 1000000 in
theorem rz_ckd_42 : rz_ck rz_kt 100000 42 = true := by decide +kernel
set_option maxRecDepth 1000000 in
theorem rz_ckd_43 : rz_ck rz_kt 100000 43 = true := by decide +kernel
set_option maxRecDepth 1000000 in
theorem rz_ckd_44 : rz_ck rz_kt 100000 44 = true := by decide +kernel
set_option maxRecDepth 1000000 in
theorem rz_ckd_45 : rz_ck rz_kt 100000 45 = true := by decide +kernel
set_option maxRecDepth 1000000 in
theorem rz_ckd_46 : rz_ck rz_kt 100000 46 = true := by decide +kernel
set_option maxRecDepth 1000000 in
theorem rz_ckd_47 : rz_ck rz_kt 100000 47 = true := by decide +kernel
set_option maxRecDepth 1000000 in
theorem rz_ckd_48 : rz_ck rz_kt 100000 48 = true := by decide +kernel
set_option maxRecDepth 1000000 in
theorem rz_ckd_49 : rz_ck rz_kt 100000 49 = true := by decide +kernel
set_option maxRecDepth 1000000 in
theorem rz_ckd_50 : rz_ck rz_kt 100000 50 = true := by decide +kernel
set_option maxRecDepth 1000000 in
theorem rz_ckd_51 : rz_ck rz_kt 100000 51 = true := by decide +kernel
set_option maxRecDepth 1000000 in
theorem rz_ckd_52 : rz_ck rz_kt 100000 52 = true := by decide +kernel
set_option maxRecDepth 1000000 in
theorem rz_ckd_53 : rz_ck rz_kt 100000 53 = true := by decide +kernel
set_option maxRecDepth 1000000 in
theorem rz_ckd_54 : rz_ck rz_kt 100000 54 = true := by decide +kernel
set_option maxRecDepth 1000000 in
theorem rz_ckd_55 : rz_ck rz_kt 100000 55 = true := by decide +kernel
