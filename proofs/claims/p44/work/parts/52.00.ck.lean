set_option maxRecDepth 1000000 in
theorem rz_ok_0 : rz_ck rz_kt 100000 0 = true := by decide +kernel
set_option maxRecDepth 1000000 in
theorem rz_ok_1 : rz_ck rz_kt 100000 1 = true := by decide +kernel
set_option maxRecDepth 1000000 in
theorem rz_ok_2 : rz_ck rz_kt 100000 2 = true := by decide +kernel
set_option maxRecDepth 1000000 in
theorem rz_ok_3 : rz_ck rz_kt 100000 3 = true := by decide +kernel
set_option maxRecDepth 1000000 in
theorem rz_ok_4 : rz_ck rz_kt 100000 4 = true := by decide +kernel
set_option maxRecDepth 1000000 in
theorem rz_ok_5 : rz_ck rz_kt 100000 5 = true := by decide +kernel
set_option maxRecDepth 1000000 in
theorem rz_ok_6 : rz_ck rz_kt 100000 6 = true := by decide +kernel
set_option maxRecDepth 1000000 in
theorem rz_ok_7 : rz_ck rz_kt 100000 7 = true := by decide +kernel
set_option maxRecDepth 1000000 in
theorem rz_ok_8 : rz_ck rz_kt 100000 8 = true := by decide +kernel
set_option maxRecDepth 1000000 in
theorem rz_ok_9 : rz_ck rz_kt 100000 9 = true := by decide +kernel
set_option maxRecDepth 1000000 in
theorem rz_ok_10 : rz_ck rz_kt 100000 10 = true := by decide +kernel
set_option maxRecDepth 1000000 in
theorem rz_ok_11 : rz_ck rz_kt 100000 11 = true := by decide +kernel
set_option maxRecDepth 1000000 in
theorem rz_ok_12 : rz_ck rz_kt 100000 12 = true := by decide +kernel
set_option maxRecDepth 1000000 in
theorem rz_ok_13 : rz_ck rz_kt 100000 13 = true := by decide +kernel
set_option maxRecDepth 1000000 in
theorem rz_ok_14 : rz_ck rz_kt 100000 14 = true := by decide +kernel
set_option maxRecDepth 1000000 in
theorem rz_ok_15 : rz_ck rz_kt 100000 15 = true := by decide +kernel
