set_option maxRecDepth 100000 in
theorem rx_mc_161 : rx_mchk 161 = true := by decide +kernel
set_option maxRecDepth 100000 in
theorem rx_mw_161 : rx_mw 161 = true := by decide +kernel
set_option maxRecDepth 100000 in
theorem rx_mc_162 : rx_mchk 162 = true := by decide +kernel
set_option maxRecDepth 100000 in
theorem rx_mw_162 : rx_mw 162 = true := by decide +kernel
set_option maxRecDepth 100000 in
theorem rx_mc_163 : rx_mchk 163 = true := by decide +kernel
set_option maxRecDepth 100000 in
theorem rx_mw_163 : rx_mw 163 = true := by decide +kernel
set_option maxRecDepth 100000 in
theorem rx_mc_164 : rx_mchk 164 = true := by decide +kernel
set_option maxRecDepth 100000 in
theorem rx_mw_164 : rx_mw 164 = true := by decide +kernel
set_option maxRecDepth 100000 in
theorem rx_mc_165 : rx_mchk 165 = true := by decide +kernel
set_option maxRecDepth 100000 in
theorem rx_mw_165 : rx_mw 165 = true := by decide +kernel
set_option maxRecDepth 100000 in
theorem rx_mc_166 : rx_mchk 166 = true := by decide +kernel
set_option maxRecDepth 100000 in
theorem rx_mw_166 : rx_mw 166 = true := by decide +kernel
set_option maxRecDepth 100000 in
theorem rx_mc_167 : rx_mchk 167 = true := by decide +kernel
set_option maxRecDepth 100000 in
theorem rx_mw_167 : rx_mw 167 = true := by decide +kernel
set_option maxRecDepth 100000 in
theorem rx_mc_168 : rx_mchk 168 = true := by decide +kernel
set_option maxRecDepth 100000 in
theorem rx_mw_168 : rx_mw 168 = true := by decide +kernel
set_option maxRecDepth 100000 in
theorem rx_mc_169 : rx_mchk 169 = true := by decide +kernel
set_option maxRecDepth 100000 in
theorem rx_mw_169 : rx_mw 169 = true := by decide +kernel
set_option maxRecDepth 100000 in
theorem rx_mc_170 : rx_mchk 170 = true := by decide +kernel
set_option maxRecDepth 100000 in
theorem rx_mw_170 : rx_mw 170 = true := by decide +kernel
set_option maxRecDepth 100000 in
theorem rx_mc_171 : rx_mchk 171 = true := by decide +kernel
set_option maxRecDepth 100000 in
theorem rx_mw_171 : rx_mw 171 = true := by decide +kernel
set_option maxRecDepth 100000 in
theorem rx_mc_172 : rx_mchk 172 = true := by decide +kernel
set_option maxRecDepth 100000 in
theorem rx_mw_172 : rx_mw 172 = true := by decide +kernel
set_option maxRecDepth 100000 in
theorem rx_mc_173 : rx_mchk 173 = true := by decide +kernel
set_option maxRecDepth 100000 in
theorem rx_mw_173 : rx_mw 173 = true := by decide +kernel
set_option maxRecDepth 100000 in
theorem rx_mc_174 : rx_mchk 174 = true := by decide +kernel
set_option maxRecDepth 100000 in
theorem rx_mw_174 : rx_mw 174 = true := by decide +kernel
set_option maxRecDepth 100000 in
theorem rx_mc_175 : rx_mchk 175 = true := by decide +kernel
set_option maxRecDepth 100000 in
theorem rx_mw_175 : rx_mw 175 = true := by decide +kernel
set_option maxRecDepth 100000 in
theorem rx_mc_176 : rx_mchk 176 = true := by decide +kernel
set_option maxRecDepth 100000 in
theorem rx_mw_176 : rx_mw 176 = true := by decide +kernel
