set_option maxRecDepth 100000 in
theorem rx_b0_40 : rx_c0_40.all (fun e => rx_chk 0 e.1 e.2) = true := by decide +kernel
set_option maxRecDepth 100000 in
theorem rx_b0_41 : rx_c0_41.all (fun e => rx_chk 0 e.1 e.2) = true := by decide +kernel
set_option maxRecDepth 100000 in
theorem rx_b0_42 : rx_c0_42.all (fun e => rx_chk 0 e.1 e.2) = true := by decide +kernel
set_option maxRecDepth 100000 in
theorem rx_b0_43 : rx_c0_43.all (fun e => rx_chk 0 e.1 e.2) = true := by decide +kernel
set_option maxRecDepth 100000 in
theorem rx_b0_44 : rx_c0_44.all (fun e => rx_chk 0 e.1 e.2) = true := by decide +kernel
set_option maxRecDepth 100000 in
theorem rx_b0_45 : rx_c0_45.all (fun e => rx_chk 0 e.1 e.2) = true := by decide +kernel
set_option maxRecDepth 100000 in
theorem rx_b0_46 : rx_c0_46.all (fun e => rx_chk 0 e.1 e.2) = true := by decide +kernel
set_option maxRecDepth 100000 in
theorem rx_b0_47 : rx_c0_47.all (fun e => rx_chk 0 e.1 e.2) = true := by decide +kernel
set_option maxRecDepth 100000 in
theorem rx_b0_48 : rx_c0_48.all (fun e => rx_chk 0 e.1 e.2) = true := by decide +kernel
set_option maxRecDepth 100000 in
theorem rx_b0_49 : rx_c0_49.all (fun e => rx_chk 0 e.1 e.2) = true := by decide +kernel
set_option maxRecDepth 100000 in
theorem rx_b0_50 : rx_c0_50.all (fun e => rx_chk 0 e.1 e.2) = true := by decide +kernel
set_option maxRecDepth 100000 in
theorem rx_b0_51 : rx_c0_51.all (fun e => rx_chk 0 e.1 e.2) = true := by decide +kernel
set_option maxRecDepth 100000 in
theorem rx_b0_52 : rx_c0_52.all (fun e => rx_chk 0 e.1 e.2) = true := by decide +kernel
set_option maxRecDepth 100000 in
theorem rx_b0_53 : rx_c0_53.all (fun e => rx_chk 0 e.1 e.2) = true := by decide +kernel
set_option maxRecDepth 100000 in
theorem rx_b0_54 : rx_c0_54.all (fun e => rx_chk 0 e.1 e.2) = true := by decide +kernel
set_option maxRecDepth 100000 in
theorem rx_b0_55 : rx_c0_55.all (fun e => rx_chk 0 e.1 e.2) = true := by decide +kernel
set_option maxRecDepth 100000 in
theorem rx_b0_56 : rx_c0_56.all (fun e => rx_chk 0 e.1 e.2) = true := by decide +kernel
set_option maxRecDepth 100000 in
theorem rx_b0_57 : rx_c0_57.all (fun e => rx_chk 0 e.1 e.2) = true := by decide +kernel
set_option maxRecDepth 100000 in
theorem rx_b0_58 : rx_c0_58.all (fun e => rx_chk 0 e.1 e.2) = true := by decide +kernel
set_option maxRecDepth 100000 in
theorem rx_b0_59 : rx_c0_59.all (fun e => rx_chk 0 e.1 e.2) = true := by decide +kernel
