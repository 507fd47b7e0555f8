set_option maxRecDepth 1000000 in
theorem rz_ckd_198 : rz_ck rz_kt 100000 198 = true := by decide +kernel
set_option maxRecDepth 1000000 in
theorem rz_ckd_199 : rz_ck rz_kt 100000 199 = true := by decide +kernel
set_option maxRecDepth 1000000 in
theorem rz_ckd_200 : rz_ck rz_kt 100000 200 = true := by decide +kernel
set_option maxRecDepth 1000000 in
theorem rz_ckd_201 : rz_ck rz_kt 100000 201 = true := by decide +kernel
set_option maxRecDepth 1000000 in
theorem rz_ckd_202 : rz_ck rz_kt 100000 202 = true := by decide +kernel
set_option maxRecDepth 1000000 in
theorem rz_ckd_203 : rz_ck rz_kt 100000 203 = true := by decide +kernel
set_option maxRecDepth 1000000 in
theorem rz_ckd_204 : rz_ck rz_kt 100000 204 = true := by decide +kernel
set_option maxRecDepth 1000000 in
theorem rz_ckd_205 : rz_ck rz_kt 100000 205 = true := by decide +kernel
set_option maxRecDepth 1000000 in
theorem rz_ckd_206 : rz_ck rz_kt 100000 206 = true := by decide +kernel
