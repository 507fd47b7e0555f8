set_option maxRecDepth 1000000 in
theorem rz_ok_86 : rz_ck rz_kt 100000 86 = true := by decide +kernel
set_option maxRecDepth 1000000 in
theorem rz_ok_87 : rz_ck rz_kt 100000 87 = true := by decide +kernel
set_option maxRecDepth 1000000 in
theorem rz_ok_88 : rz_ck rz_kt 100000 88 = true := by decide +kernel
set_option maxRecDepth 1000000 in
theorem rz_ok_89 : rz_ck rz_kt 100000 89 = true := by decide +kernel
set_option maxRecDepth 1000000 in
theorem rz_ok_90 : rz_ck rz_kt 100000 90 = true := by decide +kernel
set_option maxRecDepth 1000000 in
theorem rz_ok_91 : rz_ck rz_kt 100000 91 = true := by decide +kernel
set_option maxRecDepth 1000000 in
theorem rz_ok_92 : rz_ck rz_kt 100000 92 = true := by decide +kernel
set_option maxRecDepth 1000000 in
theorem rz_ok_93 : rz_ck rz_kt 100000 93 = true := by decide +kernel
set_option maxRecDepth 1000000 in
theorem rz_ok_94 : rz_ck rz_kt 100000 94 = true := by decide +kernel
