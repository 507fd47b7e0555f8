set_option maxRecDepth 1000000 in
theorem rz_ok_16 : rz_ck rz_kt 100000 16 = true := by decide +kernel
set_option maxRecDepth 1000000 in
theorem rz_ok_17 : rz_ck rz_kt 100000 17 = true := by decide +kernel
set_option maxRecDepth 1000000 in
theorem rz_ok_18 : rz_ck rz_kt 100000 18 = true := by decide +kernel
set_option maxRecDepth 1000000 in
theorem rz_ok_19 : rz_ck rz_kt 100000 19 = true := by decide +kernel
set_option maxRecDepth 1000000 in
theorem rz_ok_20 : rz_ck rz_kt 100000 20 = true := by decide +kernel
set_option maxRecDepth 1000000 in
theorem rz_ok_21 : rz_ck rz_kt 100000 21 = true := by decide +kernel
set_option maxRecDepth 1000000 in
theorem rz_ok_22 : rz_ck rz_kt 100000 22 = true := by decide +kernel
set_option maxRecDepth 1000000 in
theorem rz_ok_23 : rz_ck rz_kt 100000 23 = true := by decide +kernel
set_option maxRecDepth 1000000 in
theorem rz_ok_24 : rz_ck rz_kt 100000 24 = true := by decide +kernel
set_option maxRecDepth 1000000 in
theorem rz_ok_25 : rz_ck rz_kt 100000 25 = true := by decide +kernel
set_option maxRecDepth 1000000 in
theorem rz_ok_26 : rz_ck rz_kt 100000 26 = true := by decide +kernel
set_option maxRecDepth 1000000 in
theorem rz_ok_27 : rz_ck rz_kt 100000 27 = true := by decide +kernel
set_option maxRecDepth 1000000 in
theorem rz_ok_28 : rz_ck rz_kt 100000 28 = true := by decide +kernel
set_option maxRecDepth 1000000 in
theorem rz_ok_29 : rz_ck rz_kt 100000 29 = true := by decide +kernel
set_option maxRecDepth 1000000 in
theorem rz_ok_30 : rz_ck rz_kt 100000 30 = true := by decide +kernel
set_option maxRecDepth 1000000 in
theorem rz_ok_31 : rz_ck rz_kt 100000 31 = true := by decide +kernel
set_option maxRecDepth 1000000 in
theorem rz_ok_32 : rz_ck rz_kt 100000 32 = true := by decide +kernel
