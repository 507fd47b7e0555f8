set_option maxRecDepth 100000 in
theorem rx_b0_60 : rx_c0_60.all (fun e => rx_chk 0 e.1 e.2) = true := by decide +kernel
set_option maxRecDepth 100000 in
theorem rx_b0_61 : rx_c0_61.all (fun e => rx_chk 0 e.1 e.2) = true := by decide +kernel
set_option maxRecDepth 100000 in
theorem rx_b0_62 : rx_c0_62.all (fun e => rx_chk 0 e.1 e.2) = true := by decide +kernel
set_option maxRecDepth 100000 in
theorem rx_b0_63 : rx_c0_63.all (fun e => rx_chk 0 e.1 e.2) = true := by decide +kernel
set_option maxRecDepth 100000 in
theorem rx_b0_64 : rx_c0_64.all (fun e => rx_chk 0 e.1 e.2) = true := by decide +kernel
set_option maxRecDepth 100000 in
theorem rx_b0_65 : rx_c0_65.all (fun e => rx_chk 0 e.1 e.2) = true := by decide +kernel
set_option maxRecDepth 100000 in
theorem rx_b0_66 : rx_c0_66.all (fun e => rx_chk 0 e.1 e.2) = true := by decide +kernel
set_option maxRecDepth 100000 in
theorem rx_b0_67 : rx_c0_67.all (fun e => rx_chk 0 e.1 e.2) = true := by decide +kernel
set_option maxRecDepth 100000 in
theorem rx_b0_68 : rx_c0_68.all (fun e => rx_chk 0 e.1 e.2) = true := by decide +kernel
set_option maxRecDepth 100000 in
theorem rx_b0_69 : rx_c0_69.all (fun e => rx_chk 0 e.1 e.2) = true := by decide +kernel
set_option maxRecDepth 100000 in
theorem rx_b0_70 : rx_c0_70.all (fun e => rx_chk 0 e.1 e.2) = true := by decide +kernel
set_option maxRecDepth 100000 in
theorem rx_b0_71 : rx_c0_71.all (fun e => rx_chk 0 e.1 e.2) = true := by decide +kernel
set_option maxRecDepth 100000 in
theorem rx_b0_72 : rx_c0_72.all (fun e => rx_chk 0 e.1 e.2) = true := by decide +kernel
set_option maxRecDepth 100000 in
theorem rx_b0_73 : rx_c0_73.all (fun e => rx_chk 0 e.1 e.2) = true := by decide +kernel
set_option maxRecDepth 100000 in
theorem rx_b0_74 : rx_c0_74.all (fun e => rx_chk 0 e.1 e.2) = true := by decide +kernel
set_option maxRecDepth 100000 in
theorem rx_b0_75 : rx_c0_75.all (fun e => rx_chk 0 e.1 e.2) = true := by decide +kernel
set_option maxRecDepth 100000 in
theorem rx_b0_76 : rx_c0_76.all (fun e => rx_chk 0 e.1 e.2) = true := by decide +kernel
set_option maxRecDepth 100000 in
theorem rx_b0_77 : rx_c0_77.all (fun e => rx_chk 0 e.1 e.2) = true := by decide +kernel
set_option maxRecDepth 100000 in
theorem rx_b0_78 : rx_c0_78.all (fun e => rx_chk 0 e.1 e.2) = true := by decide +kernel
set_option maxRecDepth 100000 in
theorem rx_b0_79 : rx_c0_79.all (fun e => rx_chk 0 e.1 e.2) = true := by decide +kernel
