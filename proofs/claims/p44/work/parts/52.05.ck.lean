set_option maxRecDepth 1000000 in
theorem rz_ok_73 : rz_ck rz_kt 100000 73 = true := by decide +kernel
set_option maxRecDepth 1000000 in
theorem rz_ok_75 : rz_ck rz_kt 100000 75 = true := by decide +kernel
set_option maxRecDepth 1000000 in
theorem rz_ok_76 : rz_ck rz_kt 100000 76 = true := by decide +kernel
set_option maxRecDepth 1000000 in
theorem rz_ok_77 : rz_ck rz_kt 100000 77 = true := by decide +kernel
set_option maxRecDepth 1000000 in
theorem rz_ok_78 : rz_ck rz_kt 100000 78 = true := by decide +kernel
set_option maxRecDepth 1000000 in
theorem rz_ok_79 : rz_ck rz_kt 100000 79 = true := by decide +kernel
set_option maxRecDepth 1000000 in
theorem rz_ok_80 : rz_ck rz_kt 100000 80 = true := by decide +kernel
set_option maxRecDepth 1000000 in
theorem rz_ok_81 : rz_ck rz_kt 100000 81 = true := by decide +kernel
set_option maxRecDepth 1000000 in
theorem rz_ok_82 : rz_ck rz_kt 100000 82 = true := by decide +kernel
set_option maxRecDepth 1000000 in
theorem rz_ok_83 : rz_ck rz_kt 100000 83 = true := by decide +kernel
set_option maxRecDepth 1000000 in
theorem rz_ok_84 : rz_ck rz_kt 100000 84 = true := by decide +kernel
set_option maxRecDepth 1000000 in
theorem rz_ok_85 : rz_ck rz_kt 100000 85 = true := by decide +kernel
