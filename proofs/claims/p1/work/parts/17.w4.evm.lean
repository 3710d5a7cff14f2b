set_option maxRecDepth 1000000 in
theorem ev_n5 : run_1 1000000 2147483693 2147483700 2147483664 2147483664 = true := by decide +kernel
set_option maxRecDepth 1000000 in
theorem ev_n6 : run_1 1000000 2147483701 2147483708 2147483664 2147483664 = true := by decide +kernel
