set_option maxRecDepth 1000000 in
theorem rz_ckd_174 : rz_ck rz_kt 100000 174 = true := by decide +kernel
set_option maxRecDepth 1000000 in
theorem rz_ckd_175 : rz_ck rz_kt 100000 175 = true := by decide +kernel
set_option maxRecDepth 1000000 in
theorem rz_ckd_176 : rz_ck rz_kt 100000 176 = true := by decide +kernel
set_option maxRecDepth 1000000 in
theorem rz_ckd_177 : rz_ck rz_kt 100000 177 = true := by decide +kernel
set_option maxRecDepth 1000000 in
theorem rz_ckd_178 : rz_ck rz_kt 100000 178 = true := by decide +kernel
set_option maxRecDepth 1000000 in
theorem rz_ckd_179 : rz_ck rz_kt 100000 179 = true := by decide +kernel
set_option maxRecDepth 1000000 in
theorem rz_ckd_180 : rz_ck rz_kt 100000 180 = true := by decide +kernel
set_option maxRecDepth 1000000 in
theorem rz_ckd_182 : rz_ck rz_kt 100000 182 = true := by decide +kernel
set_option maxRecDepth 1000000 in
theorem rz_ckd_183 : rz_ck rz_kt 100000 183 = true := by decide +kernel
set_option maxRecDepth 1000000 in
theorem rz_ckd_184 : rz_ck rz_kt 100000 184 = true := by decide +kernel
