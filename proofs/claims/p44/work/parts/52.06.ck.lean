set_option maxRecDepth 1000000 in
theorem rz_ckd_67 : rz_ck rz_kt 100000 67 = true := by decide +kernel
set_option maxRecDepth 1000000 in
theorem rz_ckd_68 : rz_ck rz_kt 100000 68 = true := by decide +kernel
set_option maxRecDepth 1000000 in
theorem rz_ckd_69 : rz_ck rz_kt 100000 69 = true := by decide +kernel
set_option maxRecDepth 1000000 in
theorem rz_ckd_70 : rz_ck rz_kt 100000 70 = true := by decide +kernel
set_option maxRecDepth 1000000 in
theorem rz_ckd_71 : rz_ck rz_kt 100000 71 = true := by decide +kernel
set_option maxRecDepth 1000000 in
theorem rz_ckd_72 : rz_ck rz_kt 100000 72 = true := by decide +kernel
set_option maxRecDepth 1000000 in
theorem rz_ckd_73 : rz_ck rz_kt 100000 73 = true := by decide +kernel
set_option maxRecDepth 1000000 in
theorem rz_ckd_75 : rz_ck rz_kt 100000 75 = true := by decide +kernel
set_option maxRecDepth 1000000 in
theorem rz_ckd_76 : rz_ck rz_kt 100000 76 = true := by decide +kernel
set_option maxRecDepth 1000000 in
theorem rz_ckd_77 : rz_ck rz_kt 100000 77 = true := by decide +kernel
set_option maxRecDepth 1000000 in
theorem rz_ckd_78 : rz_ck rz_kt 100000 78 = true := by decide +kernel
set_option maxRecDepth 1000000 in
theorem rz_ckd_79 : rz_ck rz_kt 100000 79 = true := by decide +kernel
set_option maxRecDepth 1000000 in
theorem rz_ckd_80 : rz_ck rz_kt 100000 80 = true := by decide +kernel
set_option maxRecDepth 1000000 in
theorem rz_ckd_81 : rz_ck rz_kt 100000 81 = true := by decide +kernel
set_option maxRecDepth 1000000 in
theorem rz_ckd_82 : rz_ck rz_kt 100000 82 = true := by decide +kernel
set_option maxRecDepth 1000000 in
theorem rz_ckd_83 : rz_ck rz_kt 100000 83 = true := by decide +kernel
set_option maxRecDepth 1000000 in
theorem rz_ckd_84 : rz_ck rz_kt 100000 84 = true := by decide +kernel
set_option maxRecDepth 1000000 in
theorem rz_ckd_85 : rz_ck rz_kt 100000 85 = true := by decide +kernel
