set_option maxRecDepth 100000 in
theorem rx_b0_100 : rx_c0_100.all (fun e => rx_chk 0 e.1 e.2) = true := by decide +kernel
set_option maxRecDepth 100000 in
theorem rx_b0_101 : rx_c0_101.all (fun e => rx_chk 0 e.1 e.2) = true := by decide +kernel
set_option maxRecDepth 100000 in
theorem rx_b0_102 : rx_c0_102.all (fun e => rx_chk 0 e.1 e.2) = true := by decide +kernel
set_option maxRecDepth 100000 in
theorem rx_b0_103 : rx_c0_103.all (fun e => rx_chk 0 e.1 e.2) = true := by decide +kernel
set_option maxRecDepth 100000 in
theorem rx_b0_104 : rx_c0_104.all (fun e => rx_chk 0 e.1 e.2) = true := by decide +kernel
set_option maxRecDepth 100000 in
theorem rx_b0_105 : rx_c0_105.all (fun e => rx_chk 0 e.1 e.2) = true := by decide +kernel
set_option maxRecDepth 100000 in
theorem rx_b0_106 : rx_c0_106.all (fun e => rx_chk 0 e.1 e.2) = true := by decide +kernel
set_option maxRecDepth 100000 in
theorem rx_b0_107 : rx_c0_107.all (fun e => rx_chk 0 e.1 e.2) = true := by decide +kernel
set_option maxRecDepth 100000 in
theorem rx_b0_108 : rx_c0_108.all (fun e => rx_chk 0 e.1 e.2) = true := by decide +kernel
set_option maxRecDepth 100000 in
theorem rx_b0_109 : rx_c0_109.all (fun e => rx_chk 0 e.1 e.2) = true := by decide +kernel
set_option maxRecDepth 100000 in
theorem rx_b0_110 : rx_c0_110.all (fun e => rx_chk 0 e.1 e.2) = true := by decide +kernel
set_option maxRecDepth 100000 in
theorem rx_b0_111 : rx_c0_111.all (fun e => rx_chk 0 e.1 e.2) = true := by decide +kernel
set_option maxRecDepth 100000 in
theorem rx_b0_112 : rx_c0_112.all (fun e => rx_chk 0 e.1 e.2) = true := by decide +kernel
set_option maxRecDepth 100000 in
theorem rx_b0_113 : rx_c0_113.all (fun e => rx_chk 0 e.1 e.2) = true := by decide +kernel
set_option maxRecDepth 100000 in
theorem rx_b0_114 : rx_c0_114.all (fun e => rx_chk 0 e.1 e.2) = true := by decide +kernel
set_option maxRecDepth 100000 in
theorem rx_b0_115 : rx_c0_115.all (fun e => rx_chk 0 e.1 e.2) = true := by decide +kernel
set_option maxRecDepth 100000 in
theorem rx_b0_116 : rx_c0_116.all (fun e => rx_chk 0 e.1 e.2) = true := by decide +kernel
set_option maxRecDepth 100000 in
theorem rx_b0_117 : rx_c0_117.all (fun e => rx_chk 0 e.1 e.2) = true := by decide +kernel
set_option maxRecDepth 100000 in
theorem rx_b0_118 : rx_c0_118.all (fun e => rx_chk 0 e.1 e.2) = true := by decide +kernel
set_option maxRecDepth 100000 in
theorem rx_b0_119 : rx_c0_119.all (fun e => rx_chk 0 e.1 e.2) = true := by decide +kernel
