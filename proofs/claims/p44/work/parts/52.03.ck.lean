set_option maxRecDepth 1000000 in
theorem rz_ok_49 : rz_ck rz_kt 100000 49 = true := by decide +kernel
set_option maxRecDepth 1000000 in
theorem rz_ok_50 : rz_ck rz_kt 100000 50 = true := by decide +kernel
set_option maxRecDepth 1000000 in
theorem rz_ok_51 : rz_ck rz_kt 100000 51 = true := by decide +kernel
set_option maxRecDepth 1000000 in
theorem rz_ok_52 : rz_ck rz_kt 100000 52 = true := by decide +kernel
set_option maxRecDepth 1000000 in
theorem rz_ok_53 : rz_ck rz_kt 100000 53 = true := by decide +kernel
set_option maxRecDepth 1000000 in
theorem rz_ok_54 : rz_ck rz_kt 100000 54 = true := by decide +kernel
set_option maxRecDepth 1000000 in
theorem rz_ok_55 : rz_ck rz_kt 100000 55 = true := by decide +kernel
set_option maxRecDepth 1000000 in
theorem rz_ok_56 : rz_ck rz_kt 100000 56 = true := by decide +kernel
set_option maxRecDepth 1000000 in
theorem rz_ok_57 : rz_ck rz_kt 100000 57 = true := by decide +kernel
set_option maxRecDepth 1000000 in
theorem rz_ok_58 : rz_ck rz_kt 100000 58 = true := by decide +kernel
set_option maxRecDepth 1000000 in
theorem rz_ok_59 : rz_ck rz_kt 100000 59 = true := by decide +kernel
set_option maxRecDepth 1000000 in
theorem rz_ok_60 : rz_ck rz_kt 100000 60 = true := by decide +kernel
set_option maxRecDepth 1000000 in
theorem rz_ok_61 : rz_ck rz_kt 100000 61 = true := by decide +kernel
set_option maxRecDepth 1000000 in
theorem rz_ok_62 : rz_ck rz_kt 100000 62 = true := by decide +kernel
set_option maxRecDepth 1000000 in
theorem rz_ok_63 : rz_ck rz_kt 100000 63 = true := by decide +kernel
set_option maxRecDepth 1000000 in
theorem rz_ok_64 : rz_ck rz_kt 100000 64 = true := by decide +kernel
set_option maxRecDepth 1000000 in
theorem rz_ok_65 : rz_ck rz_kt 100000 65 = true := by decide +kernel
