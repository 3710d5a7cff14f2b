set_option maxRecDepth 1000000 in
theorem ev_n3 : run_1 1000000 2147483677 2147483684 2147483664 2147483664 = true := by decide +kernel
set_option maxRecDepth 1000000 in
theorem ev_n4 : run_1 1000000 2147483685 2147483692 2147483664 2147483664 = true := by decide +kernel
