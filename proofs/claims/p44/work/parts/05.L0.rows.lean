set_option maxRecDepth 100000 in
theorem rx_b0_0 : rx_c0_0.all (fun e => rx_chk 0 e.1 e.2) = true := by decide +kernel
set_option maxRecDepth 100000 in
theorem rx_b0_1 : rx_c0_1.all (fun e => rx_chk 0 e.1 e.2) = true := by decide +kernel
set_option maxRecDepth 100000 in
theorem rx_b0_2 : rx_c0_2.all (fun e => rx_chk 0 e.1 e.2) = true := by decide +kernel
set_option maxRecDepth 100000 in
theorem rx_b0_3 : rx_c0_3.all (fun e => rx_chk 0 e.1 e.2) = true := by decide +kernel
set_option maxRecDepth 100000 in
theorem rx_b0_4 : rx_c0_4.all (fun e => rx_chk 0 e.1 e.2) = true := by decide +kernel
set_option maxRecDepth 100000 in
theorem rx_b0_5 : rx_c0_5.all (fun e => rx_chk 0 e.1 e.2) = true := by decide +kernel
set_option maxRecDepth 100000 in
theorem rx_b0_6 : rx_c0_6.all (fun e => rx_chk 0 e.1 e.2) = true := by decide +kernel
set_option maxRecDepth 100000 in
theorem rx_b0_7 : rx_c0_7.all (fun e => rx_chk 0 e.1 e.2) = true := by decide +kernel
set_option maxRecDepth 100000 in
theorem rx_b0_8 : rx_c0_8.all (fun e => rx_chk 0 e.1 e.2) = true := by decide +kernel
set_option maxRecDepth 100000 in
theorem rx_b0_9 : rx_c0_9.all (fun e => rx_chk 0 e.1 e.2) = true := by decide +kernel
set_option maxRecDepth 100000 in
theorem rx_b0_10 : rx_c0_10.all (fun e => rx_chk 0 e.1 e.2) = true := by decide +kernel
set_option maxRecDepth 100000 in
theorem rx_b0_11 : rx_c0_11.all (fun e => rx_chk 0 e.1 e.2) = true := by decide +kernel
set_option maxRecDepth 100000 in
theorem rx_b0_12 : rx_c0_12.all (fun e => rx_chk 0 e.1 e.2) = true := by decide +kernel
set_option maxRecDepth 100000 in
theorem rx_b0_13 : rx_c0_13.all (fun e => rx_chk 0 e.1 e.2) = true := by decide +kernel
set_option maxRecDepth 100000 in
theorem rx_b0_14 : rx_c0_14.all (fun e => rx_chk 0 e.1 e.2) = true := by decide +kernel
set_option maxRecDepth 100000 in
theorem rx_b0_15 : rx_c0_15.all (fun e => rx_chk 0 e.1 e.2) = true := by decide +kernel
set_option maxRecDepth 100000 in
theorem rx_b0_16 : rx_c0_16.all (fun e => rx_chk 0 e.1 e.2) = true := by decide +kernel
set_option maxRecDepth 100000 in
theorem rx_b0_17 : rx_c0_17.all (fun e => rx_chk 0 e.1 e.2) = true := by decide +kernel
set_option maxRecDepth 100000 in
theorem rx_b0_18 : rx_c0_18.all (fun e => rx_chk 0 e.1 e.2) = true := by decide +kernel
set_option maxRecDepth 100000 in
theorem rx_b0_19 : rx_c0_19.all (fun e => rx_chk 0 e.1 e.2) = true := by decide +kernel
