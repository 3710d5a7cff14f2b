theorem gk_161_0 : acck gFL gCL gMT gXT gKI gKL gST (gCA [(52, [gc_52_0]), (60, [gc_60_0])]) gJ1 100000 gm_161 (gXT 161) gc_161_0 = true := by decide +kernel
theorem zc_161_0 {E : zE} (B : zB E) (A : zA E gJ1) : zH E gJ1 (gm_161, 2) gc_161_0 := z_chk B A (zP_cons rfl (zF_cons (zr_top B A) zF_nil) (zP_cons rfl (zF_cons (zc_60_0 B A) zF_nil) zP_nil)) (by decide) (by decide +kernel) gk_161_0
