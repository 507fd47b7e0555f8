set_option maxRecDepth 100000 in
theorem rx_run_272 : rx_fin (rx_run 33 100000 (nat_lit 0) (nat_lit 272) rx_l0 [] rx_sr1 rx_h0 (nat_lit 148) (nat_lit 26053)) = true := by decide +kernel
set_option maxRecDepth 100000 in
theorem rx_run_335 : rx_fin (rx_run 33 100000 (nat_lit 0) (nat_lit 335) rx_l0 [] rx_sr1 rx_h0 (nat_lit 148) (nat_lit 26053)) = true := by decide +kernel
set_option maxRecDepth 100000 in
theorem rx_run_358 : rx_fin (rx_run 33 100000 (nat_lit 0) (nat_lit 358) rx_l0 [] rx_sr1 rx_h0 (nat_lit 148) (nat_lit 26053)) = true := by decide +kernel
set_option maxRecDepth 100000 in
theorem rx_run_371 : rx_fin (rx_run 33 100000 (nat_lit 0) (nat_lit 371) rx_l0 [] rx_sr1 rx_h0 (nat_lit 148) (nat_lit 26053)) = true := by decide +kernel
set_option maxRecDepth 100000 in
theorem rx_run_394 : rx_fin (rx_run 33 100000 (nat_lit 0) (nat_lit 394) rx_l0 [] rx_sr1 rx_h0 (nat_lit 148) (nat_lit 26053)) = true := by decide +kernel
set_option maxRecDepth 100000 in
theorem rx_run_417 : rx_fin (rx_run 33 100000 (nat_lit 0) (nat_lit 417) rx_l0 [] rx_sr1 rx_h0 (nat_lit 148) (nat_lit 26053)) = true := by decide +kernel
set_option maxRecDepth 100000 in
theorem rx_run_450 : rx_fin (rx_run 33 100000 (nat_lit 0) (nat_lit 450) rx_l0 [] rx_sr1 rx_h0 (nat_lit 148) (nat_lit 26053)) = true := by decide +kernel
set_option maxRecDepth 100000 in
theorem rx_run_483 : rx_fin (rx_run 33 100000 (nat_lit 0) (nat_lit 483) rx_l0 [] rx_sr1 rx_h0 (nat_lit 148) (nat_lit 26053)) = true := by decide +kernel
set_option maxRecDepth 100000 in
theorem rx_run_516 : rx_fin (rx_run 33 100000 (nat_lit 0) (nat_lit 516) rx_l0 [] rx_sr1 rx_h0 (nat_lit 148) (nat_lit 26053)) = true := by decide +kernel
set_option maxRecDepth 100000 in
theorem rx_run_549 : rx_fin (rx_run 33 100000 (nat_lit 0) (nat_lit 549) rx_l0 [] rx_sr1 rx_h0 (nat_lit 148) (nat_lit 26053)) = true := by decide +kernel
set_option maxRecDepth 100000 in
theorem rx_run_572 : rx_fin (rx_run 33 100000 (nat_lit 0) (nat_lit 572) rx_l0 [] rx_sr1 rx_h0 (nat_lit 148) (nat_lit 26053)) = true := by decide +kernel
set_option maxRecDepth 100000 in
theorem rx_run_595 : rx_fin (rx_run 33 100000 (nat_lit 0) (nat_lit 595) rx_l0 [] rx_sr1 rx_h0 (nat_lit 148) (nat_lit 26053)) = true := by decide +kernel
set_option maxRecDepth 100000 in
theorem rx_run_628 : rx_fin (rx_run 33 100000 (nat_lit 0) (nat_lit 628) rx_l0 [] rx_sr1 rx_h0 (nat_lit 148) (nat_lit 26053)) = true := by decide +kernel
set_option maxRecDepth 100000 in
theorem rx_run_641 : rx_fin (rx_run 33 100000 (nat_lit 0) (nat_lit 641) rx_l0 [] rx_sr1 rx_h0 (nat_lit 148) (nat_lit 26053)) = true := by decide +kernel
set_option maxRecDepth 100000 in
theorem rx_run_654 : rx_fin (rx_run 33 100000 (nat_lit 0) (nat_lit 654) rx_l0 [] rx_sr1 rx_h0 (nat_lit 148) (nat_lit 26053)) = true := by decide +kernel
set_option maxRecDepth 100000 in
theorem rx_run_667 : rx_fin (rx_run 33 100000 (nat_lit 0) (nat_lit 667) rx_l0 [] rx_sr1 rx_h0 (nat_lit 148) (nat_lit 26053)) = true := by decide +kernel
set_option maxRecDepth 100000 in
theorem rx_run_730 : rx_fin (rx_run 33 100000 (nat_lit 0) (nat_lit 730) rx_l0 [] rx_sr1 rx_h0 (nat_lit 148) (nat_lit 26053)) = true := by decide +kernel
set_option maxRecDepth 100000 in
theorem rx_run_773 : rx_fin (rx_run 33 100000 (nat_lit 0) (nat_lit 773) rx_l0 [] rx_sr1 rx_h0 (nat_lit 148) (nat_lit 26053)) = true := by decide +kernel
set_option maxRecDepth 100000 in
theorem rx_run_826 : rx_fin (rx_run 33 100000 (nat_lit 0) (nat_lit 826) rx_l0 [] rx_sr1 rx_h0 (nat_lit 148) (nat_lit 26053)) = true := by decide +kernel
set_option maxRecDepth 100000 in
theorem rx_run_872 : rx_fin (rx_run 33 100000 (nat_lit 0) (nat_lit 872) rx_l0 [] rx_sr1 rx_h0 (nat_lit 148) (nat_lit 26053)) = true := by decide +kernel
set_option maxRecDepth 100000 in
theorem rx_run_905 : rx_fin (rx_run 33 100000 (nat_lit 0) (nat_lit 905) rx_l0 [] rx_sr1 rx_h0 (nat_lit 148) (nat_lit 26053)) = true := by decide +kernel
set_option maxRecDepth 100000 in
theorem rx_run_938 : rx_fin (rx_run 33 100000 (nat_lit 0) (nat_lit 938) rx_l0 [] rx_sr1 rx_h0 (nat_lit 148) (nat_lit 26053)) = true := by decide +kernel
set_option maxRecDepth 100000 in
theorem rx_run_961 : rx_fin (rx_run 33 100000 (nat_lit 0) (nat_lit 961) rx_l0 [] rx_sr1 rx_h0 (nat_lit 148) (nat_lit 26053)) = true := by decide +kernel
set_option maxRecDepth 100000 in
theorem rx_run_994 : rx_fin (rx_run 33 100000 (nat_lit 0) (nat_lit 994) rx_l0 [] rx_sr1 rx_h0 (nat_lit 148) (nat_lit 26053)) = true := by decide +kernel
set_option maxRecDepth 100000 in
theorem rx_run_1027 : rx_fin (rx_run 33 100000 (nat_lit 0) (nat_lit 1027) rx_l0 [] rx_sr1 rx_h0 (nat_lit 148) (nat_lit 26053)) = true := by decide +kernel
set_option maxRecDepth 100000 in
theorem rx_run_1040 : rx_fin (rx_run 33 100000 (nat_lit 0) (nat_lit 1040) rx_l0 [] rx_sr1 rx_h0 (nat_lit 148) (nat_lit 26053)) = true := by decide +kernel
set_option maxRecDepth 100000 in
theorem rx_run_1063 : rx_fin (rx_run 33 100000 (nat_lit 0) (nat_lit 1063) rx_l0 [] rx_sr1 rx_h0 (nat_lit 148) (nat_lit 26053)) = true := by decide +kernel
set_option maxRecDepth 100000 in
theorem rx_run_1076 : rx_fin (rx_run 33 100000 (nat_lit 0) (nat_lit 1076) rx_l0 [] rx_sr1 rx_h0 (nat_lit 148) (nat_lit 26053)) = true := by decide +kernel
set_option maxRecDepth 100000 in
theorem rx_run_1109 : rx_fin (rx_run 33 100000 (nat_lit 0) (nat_lit 1109) rx_l0 [] rx_sr1 rx_h0 (nat_lit 148) (nat_lit 26053)) = true := by decide +kernel
set_option maxRecDepth 100000 in
theorem rx_run_1142 : rx_fin (rx_run 33 100000 (nat_lit 0) (nat_lit 1142) rx_l0 [] rx_sr1 rx_h0 (nat_lit 148) (nat_lit 26053)) = true := by decide +kernel
set_option maxRecDepth 100000 in
theorem rx_run_1175 : rx_fin (rx_run 33 100000 (nat_lit 0) (nat_lit 1175) rx_l0 [] rx_sr1 rx_h0 (nat_lit 148) (nat_lit 26053)) = true := by decide +kernel
set_option maxRecDepth 100000 in
theorem rx_run_1218 : rx_fin (rx_run 33 100000 (nat_lit 0) (nat_lit 1218) rx_l0 [] rx_sr1 rx_h0 (nat_lit 148) (nat_lit 26053)) = true := by decide +kernel
set_option maxRecDepth 100000 in
theorem rx_run_1251 : rx_fin (rx_run 33 100000 (nat_lit 0) (nat_lit 1251) rx_l0 [] rx_sr1 rx_h0 (nat_lit 148) (nat_lit 26053)) = true := by decide +kernel
set_option maxRecDepth 100000 in
theorem rx_run_1284 : rx_fin (rx_run 33 100000 (nat_lit 0) (nat_lit 1284) rx_l0 [] rx_sr1 rx_h0 (nat_lit 148) (nat_lit 26053)) = true := by decide +kernel
set_option maxRecDepth 100000 in
theorem rx_run_1307 : rx_fin (rx_run 33 100000 (nat_lit 0) (nat_lit 1307) rx_l0 [] rx_sr1 rx_h0 (nat_lit 148) (nat_lit 26053)) = true := by decide +kernel
set_option maxRecDepth 100000 in
theorem rx_run_1340 : rx_fin (rx_run 33 100000 (nat_lit 0) (nat_lit 1340) rx_l0 [] rx_sr1 rx_h0 (nat_lit 148) (nat_lit 26053)) = true := by decide +kernel
set_option maxRecDepth 100000 in
theorem rx_run_1353 : rx_fin (rx_run 33 100000 (nat_lit 0) (nat_lit 1353) rx_l0 [] rx_sr1 rx_h0 (nat_lit 148) (nat_lit 26053)) = true := by decide +kernel
set_option maxRecDepth 100000 in
theorem rx_run_1376 : rx_fin (rx_run 33 100000 (nat_lit 0) (nat_lit 1376) rx_l0 [] rx_sr1 rx_h0 (nat_lit 148) (nat_lit 26053)) = true := by decide +kernel
set_option maxRecDepth 100000 in
theorem rx_run_1409 : rx_fin (rx_run 33 100000 (nat_lit 0) (nat_lit 1409) rx_l0 [] rx_sr1 rx_h0 (nat_lit 148) (nat_lit 26053)) = true := by decide +kernel
set_option maxRecDepth 100000 in
theorem rx_run_1432 : rx_fin (rx_run 33 100000 (nat_lit 0) (nat_lit 1432) rx_l0 [] rx_sr1 rx_h0 (nat_lit 148) (nat_lit 26053)) = true := by decide +kernel
set_option maxRecDepth 100000 in
theorem rx_run_1465 : rx_fin (rx_run 33 100000 (nat_lit 0) (nat_lit 1465) rx_l0 [] rx_sr1 rx_h0 (nat_lit 148) (nat_lit 26053)) = true := by decide +kernel
set_option maxRecDepth 100000 in
theorem rx_run_1488 : rx_fin (rx_run 33 100000 (nat_lit 0) (nat_lit 1488) rx_l0 [] rx_sr1 rx_h0 (nat_lit 148) (nat_lit 26053)) = true := by decide +kernel
set_option maxRecDepth 100000 in
theorem rx_run_1511 : rx_fin (rx_run 33 100000 (nat_lit 0) (nat_lit 1511) rx_l0 [] rx_sr1 rx_h0 (nat_lit 148) (nat_lit 26053)) = true := by decide +kernel
