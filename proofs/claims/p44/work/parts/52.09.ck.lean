set_option maxRecDepth 1000000 in
theorem rz_ckd_127 : rz_ck rz_kt 100000 127 = true := by decide +kernel
set_option maxRecDepth 1000000 in
theorem rz_ckd_128 : rz_ck rz_kt 100000 128 = true := by decide +kernel
set_option maxRecDepth 1000000 in
theorem rz_ckd_129 : rz_ck rz_kt 100000 129 = true := by decide +kernel
set_option maxRecDepth 1000000 in
theorem rz_ckd_130 : rz_ck rz_kt 100000 130 = true := by decide +kernel
set_option maxRecDepth 1000000 in
theorem rz_ckd_131 : rz_ck rz_kt 100000 131 = true := by decide +kernel
set_option maxRecDepth 1000000 in
theorem rz_ckd_132 : rz_ck rz_kt 100000 132 = true := by decide +kernel
set_option maxRecDepth 1000000 in
theorem rz_ckd_133 : rz_ck rz_kt 100000 133 = true := by decide +kernel
set_option maxRecDepth 1000000 in
theorem rz_ckd_134 : rz_ck rz_kt 100000 134 = true := by decide +kernel
set_option maxRecDepth 1000000 in
theorem rz_ckd_135 : rz_ck rz_kt 100000 135 = true := by decide +kernel
set_option maxRecDepth 1000000 in
theorem rz_ckd_136 : rz_ck rz_kt 100000 136 = true := by decide +kernel
set_option maxRecDepth 1000000 in
theorem rz_ckd_137 : rz_ck rz_kt 100000 137 = true := by decide +kernel
set_option maxRecDepth 1000000 in
theorem rz_ckd_138 : rz_ck rz_kt 100000 138 = true := by decide +kernel
set_option maxRecDepth 1000000 in
theorem rz_ckd_139 : rz_ck rz_kt 100000 139 = true := by decide +kernel
set_option maxRecDepth 1000000 in
theorem rz_ckd_140 : rz_ck rz_kt 100000 140 = true := by decide +kernel
set_option maxRecDepth 1000000 in
theorem rz_ckd_141 : rz_ck rz_kt 100000 141 = true := by decide +kernel
set_option maxRecDepth 1000000 in
theorem rz_ckd_142 : rz_ck rz_kt 100000 142 = true := by decide +kernel
set_option maxRecDepth 1000000 in
theorem rz_ckd_143 : rz_ck rz_kt 100000 143 = true := by decide +kernel
set_option maxRecDepth 1000000 in
theorem rz_ckd_144 : rz_ck rz_kt 100000 144 = true := by decide +kernel
set_option maxRecDepth 1000000 in
theorem rz_ckd_145 : rz_ck rz_kt 100000 145 = true := by decide +kernel
set_option maxRecDepth 1000000 in
theorem rz_ckd_146 : rz_ck rz_kt 100000 146 = true := by decide +kernel
set_option maxRecDepth 1000000 in
theorem rz_ckd_147 : rz_ck rz_kt 100000 147 = true := by decide +kernel
set_option maxRecDepth 1000000 in
theorem rz_ckd_148 : rz_ck rz_kt 100000 148 = true := by decide +kernel
set_option maxRecDepth 1000000 in
theorem rz_ckd_149 : rz_ck rz_kt 100000 149 = true := by decide +kernel
set_option maxRecDepth 1000000 in
theorem rz_ckd_150 : rz_ck rz_kt 100000 150 = true := by decide +kernel
set_option maxRecDepth 1000000 in
theorem rz_ckd_151 : rz_ck rz_kt 100000 151 = true := by decide +kernel
set_option maxRecDepth 1000000 in
theorem rz_ckd_152 : rz_ck rz_kt 100000 152 = true := by decide +kernel
set_option maxRecDepth 1000000 in
theorem rz_ckd_153 : rz_ck rz_kt 100000 153 = true := by decide +kernel
set_option maxRecDepth 1000000 in
theorem rz_ckd_154 : rz_ck rz_kt 100000 154 = true := by decide +kernel
set_option maxRecDepth 1000000 in
theorem rz_ckd_155 : rz_ck rz_kt 100000 155 = true := by decide +kernel
set_option maxRecDepth 1000000 in
theorem rz_ckd_156 : rz_ck rz_kt 100000 156 = true := by decide +kernel
set_option maxRecDepth 1000000 in
theorem rz_ckd_157 : rz_ck rz_kt 100000 157 = true := by decide +kernel
set_option maxRecDepth 1000000 in
theorem rz_ckd_158 : rz_ck rz_kt 100000 158 = true := by decide +kernel
set_option maxRecDepth 1000000 in
theorem rz_ckd_159 : rz_ck rz_kt 100000 159 = true := by decide +kernel
set_option maxRecDepth 1000000 in
theorem rz_ckd_160 : rz_ck rz_kt 100000 160 = true := by decide +kernel
set_option maxRecDepth 1000000 in
theorem rz_ckd_161 : rz_ck rz_kt 100000 161 = true := by decide +kernel
set_option maxRecDepth 1000000 in
theorem rz_ckd_162 : rz_ck rz_kt 100000 162 = true := by decide +kernel
set_option maxRecDepth 1000000 in
theorem rz_ckd_163 : rz_ck rz_kt 100000 163 = true := by decide +kernel
set_option maxRecDepth 1000000 in
theorem rz_ckd_164 : rz_ck rz_kt 100000 164 = true := by decide +kernel
set_option maxRecDepth 1000000 in
theorem rz_ckd_165 : rz_ck rz_kt 100000 165 = true := by decide +kernel
set_option maxRecDepth 1000000 in
theorem rz_ckd_166 : rz_ck rz_kt 100000 166 = true := by decide +kernel
set_option maxRecDepth 1000000 in
theorem rz_ckd_167 : rz_ck rz_kt 100000 167 = true := by decide +kernel
set_option maxRecDepth 1000000 in
theorem rz_ckd_168 : rz_ck rz_kt 100000 168 = true := by decide +kernel
set_option maxRecDepth 1000000 in
theorem rz_ckd_169 : rz_ck rz_kt 100000 169 = true := by decide +kernel
set_option maxRecDepth 1000000 in
theorem rz_ckd_170 : rz_ck rz_kt 100000 170 = true := by decide +kernel
set_option maxRecDepth 1000000 in
theorem rz_ckd_171 : rz_ck rz_kt 100000 171 = true := by decide +kernel
set_option maxRecDepth 1000000 in
theorem rz_ckd_172 : rz_ck rz_kt 100000 172 = true := by decide +kernel
set_option maxRecDepth 1000000 in
theorem rz_ckd_173 : rz_ck rz_kt 100000 173 = true := by decide +kernel
