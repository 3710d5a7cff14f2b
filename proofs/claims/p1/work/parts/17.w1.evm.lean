set_option maxRecDepth 1000000 in
theorem ev_m0 : run_1 1000000 0 2147483648 2147483664 2147483664 = true := by decide +kernel
set_option maxRecDepth 1000000 in
theorem ev_m7 : run_1 1000000 2147483709 4294967295 2147483664 2147483664 = true := by decide +kernel
set_option maxRecDepth 1000000 in
theorem ev_m1 : run_1 1000000 2147483649 2147483652 2147483664 2147483664 = true := by decide +kernel
