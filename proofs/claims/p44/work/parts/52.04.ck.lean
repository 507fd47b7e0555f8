set_option maxRecDepth 1000000 in
theorem rz_ok_66 : rz_ck rz_kt 100000 66 = true := by decide +kernel
set_option maxRecDepth 1000000 in
theorem rz_ok_67 : rz_ck rz_kt 100000 67 = true := by decide +kernel
set_option maxRecDepth 1000000 in
theorem rz_ok_68 : rz_ck rz_kt 100000 68 = true := by decide +kernel
set_option maxRecDepth 1000000 in
theorem rz_ok_69 : rz_ck rz_kt 100000 69 = true := by decide +kernel
set_option maxRecDepth 1000000 in
theorem rz_ok_70 : rz_ck rz_kt 100000 70 = true := by decide +kernel
set_option maxRecDepth 1000000 in
theorem rz_ok_71 : rz_ck rz_kt 100000 71 = true := by decide +kernel
set_option maxRecDepth 1000000 in
theorem rz_ok_72 : rz_ck rz_kt 100000 72 = true := by decide +kernel
