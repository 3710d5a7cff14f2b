set_option maxRecDepth 1000000 in
theorem ev_n0 : run_1 1000000 2147483653 2147483660 2147483664 2147483664 = true := by decide +kernel
set_option maxRecDepth 1000000 in
theorem ev_n1 : run_1 1000000 2147483661 2147483668 2147483664 2147483664 = true := by decide +kernel
set_option maxRecDepth 1000000 in
theorem ev_n2 : run_1 1000000 2147483669 2147483676 2147483664 2147483664 = true := by decide +kernel
