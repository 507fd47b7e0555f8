set_option maxRecDepth 1000000 in
theorem rz_ckd_188 : rz_ck rz_kt 100000 188 = true := by decide +kernel
set_option maxRecDepth 1000000 in
theorem rz_ckd_190 : rz_ck rz_kt 100000 190 = true := by decide +kernel
set_option maxRecDepth 1000000 in
theorem rz_ckd_191 : rz_ck rz_kt 100000 191 = true := by decide +kernel
set_option maxRecDepth 1000000 in
theorem rz_ckd_192 : rz_ck rz_kt 100000 192 = true := by decide +kernel
set_option maxRecDepth 1000000 in
theorem rz_ckd_193 : rz_ck rz_kt 100000 193 = true := by decide +kernel
set_option maxRecDepth 1000000 in
theorem rz_ckd_195 : rz_ck rz_kt 100000 195 = true := by decide +kernel
set_option maxRecDepth 1000000 in
theorem rz_ckd_196 : rz_ck rz_kt 100000 196 = true := by decide +kernel
set_option maxRecDepth 1000000 in
theorem rz_ckd_197 : rz_ck rz_kt 100000 197 = true := by decide +kernel
