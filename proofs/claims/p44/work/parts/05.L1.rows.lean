set_option maxRecDepth 100000 in
theorem rx_b0_20 : rx_c0_20.all (fun e => rx_chk 0 e.1 e.2) = true := by decide +kernel
set_option maxRecDepth 100000 in
theorem rx_b0_21 : rx_c0_21.all (fun e => rx_chk 0 e.1 e.2) = true := by decide +kernel
set_option maxRecDepth 100000 in
theorem rx_b0_22 : rx_c0_22.all (fun e => rx_chk 0 e.1 e.2) = true := by decide +kernel
set_option maxRecDepth 100000 in
theorem rx_b0_23 : rx_c0_23.all (fun e => rx_chk 0 e.1 e.2) = true := by decide +kernel
set_option maxRecDepth 100000 in
theorem rx_b0_24 : rx_c0_24.all (fun e => rx_chk 0 e.1 e.2) = true := by decide +kernel
set_option maxRecDepth 100000 in
theorem rx_b0_25 : rx_c0_25.all (fun e => rx_chk 0 e.1 e.2) = true := by decide +kernel
set_option maxRecDepth 100000 in
theorem rx_b0_26 : rx_c0_26.all (fun e => rx_chk 0 e.1 e.2) = true := by decide +kernel
set_option maxRecDepth 100000 in
theorem rx_b0_27 : rx_c0_27.all (fun e => rx_chk 0 e.1 e.2) = true := by decide +kernel
set_option maxRecDepth 100000 in
theorem rx_b0_28 : rx_c0_28.all (fun e => rx_chk 0 e.1 e.2) = true := by decide +kernel
set_option maxRecDepth 100000 in
theorem rx_b0_29 : rx_c0_29.all (fun e => rx_chk 0 e.1 e.2) = true := by decide +kernel
set_option maxRecDepth 100000 in
theorem rx_b0_30 : rx_c0_30.all (fun e => rx_chk 0 e.1 e.2) = true := by decide +kernel
set_option maxRecDepth 100000 in
theorem rx_b0_31 : rx_c0_31.all (fun e => rx_chk 0 e.1 e.2) = true := by decide +kernel
set_option maxRecDepth 100000 in
theorem rx_b0_32 : rx_c0_32.all (fun e => rx_chk 0 e.1 e.2) = true := by decide +kernel
set_option maxRecDepth 100000 in
theorem rx_b0_33 : rx_c0_33.all (fun e => rx_chk 0 e.1 e.2) = true := by decide +kernel
set_option maxRecDepth 100000 in
theorem rx_b0_34 : rx_c0_34.all (fun e => rx_chk 0 e.1 e.2) = true := by decide +kernel
set_option maxRecDepth 100000 in
theorem rx_b0_35 : rx_c0_35.all (fun e => rx_chk 0 e.1 e.2) = true := by decide +kernel
set_option maxRecDepth 100000 in
theorem rx_b0_36 : rx_c0_36.all (fun e => rx_chk 0 e.1 e.2) = true := by decide +kernel
set_option maxRecDepth 100000 in
theorem rx_b0_37 : rx_c0_37.all (fun e => rx_chk 0 e.1 e.2) = true := by decide +kernel
set_option maxRecDepth 100000 in
theorem rx_b0_38 : rx_c0_38.all (fun e => rx_chk 0 e.1 e.2) = true := by decide +kernel
set_option maxRecDepth 100000 in
theorem rx_b0_39 : rx_c0_39.all (fun e => rx_chk 0 e.1 e.2) = true := by decide +kernel
