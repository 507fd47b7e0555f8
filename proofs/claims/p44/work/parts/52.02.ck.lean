set_option maxRecDepth 1000000 in
theorem rz_ok_33 : rz_ck rz_kt 100000 33 = true := by decide +kernel
set_option maxRecDepth 1000000 in
theorem rz_ok_34 : rz_ck rz_kt 100000 34 = true := by decide +kernel
set_option maxRecDepth 1000000 in
theorem rz_ok_35 : rz_ck rz_kt 100000 35 = true := by decide +kernel
set_option maxRecDepth 1000000 in
theorem rz_ok_36 : rz_ck rz_kt 100000 36 = true := by decide +kernel
set_option maxRecDepth 1000000 in
theorem rz_ok_37 : rz_ck rz_kt 100000 37 = true := by decide +kernel
set_option maxRecDepth 1000000 in
theorem rz_ok_38 : rz_ck rz_kt 100000 38 = true := by decide +kernel
set_option maxRecDepth 1000000 in
theorem rz_ok_39 : rz_ck rz_kt 100000 39 = true := by decide +kernel
set_option maxRecDepth 1000000 in
theorem rz_ok_40 : rz_ck rz_kt 100000 40 = true := by decide +kernel
set_option maxRecDepth 1000000 in
theorem rz_ok_41 : rz_ck rz_kt 100000 41 = true := by decide +kernel
set_option maxRecDepth 1000000 in
theorem rz_ok_42 : rz_ck rz_kt 100000 42 = true := by decide +kernel
set_option maxRecDepth 1000000 in
theorem rz_ok_43 : rz_ck rz_kt 100000 43 = true := by decide +kernel
set_option maxRecDepth 1000000 in
theorem rz_ok_44 : rz_ck rz_kt 100000 44 = true := by decide +kernel
set_option maxRecDepth 1000000 in
theorem rz_ok_45 : rz_ck rz_kt 100000 45 = true := by decide +kernel
set_option maxRecDepth 1000000 in
theorem rz_ok_46 : rz_ck rz_kt 100000 46 = true := by decide +kernel
set_option maxRecDepth 1000000 in
theorem rz_ok_47 : rz_ck rz_kt 100000 47 = true := by decide +kernel
set_option maxRecDepth 1000000 in
theorem rz_ok_48 : rz_ck rz_kt 100000 48 = true := by decide +kernel
