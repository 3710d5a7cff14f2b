theorem gk_251_0 : acck gFL gCL gMT gXT gKI gKL gST (gCA []) gJ1 100000 gm_251 (gXT 251) gc_251_0 = true := by decide +kernel
theorem zc_251_0 {E : zE} (B : zB E) (A : zA E gJ1) : zH E gJ1 (gm_251, 4) gc_251_0 := z_chk B A zP_nil (by decide) (by decide +kernel) gk_251_0
theorem gk_253_0 : acck gFL gCL gMT gXT gKI gKL gST (gCA []) gJ1 100000 gm_253 (gXT 253) gc_253_0 = true := by decide +kernel
theorem zc_253_0 {E : zE} (B : zB E) (A : zA E gJ1) : zH E gJ1 (gm_253, 4) gc_253_0 := z_chk B A zP_nil (by decide) (by decide +kernel) gk_253_0
theorem gk_255_0 : acck gFL gCL gMT gXT gKI gKL gST (gCA []) gJ1 100000 gm_255 (gXT 255) gc_255_0 = true := by decide +kernel
theorem zc_255_0 {E : zE} (B : zB E) (A : zA E gJ1) : zH E gJ1 (gm_255, 2) gc_255_0 := z_chk B A zP_nil (by decide) (by decide +kernel) gk_255_0
theorem gk_264_0 : acck gFL gCL gMT gXT gKI gKL gST (gCA []) gJ1 100000 gm_264 (gXT 264) gc_264_0 = true := by decide +kernel
theorem zc_264_0 {E : zE} (B : zB E) (A : zA E gJ1) : zH E gJ1 (gm_264, 4) gc_264_0 := z_chk B A zP_nil (by decide) (by decide +kernel) gk_264_0
theorem gk_274_0 : acck gFL gCL gMT gXT gKI gKL gST (gCA []) gJ1 100000 gm_274 (gXT 274) gc_274_0 = true := by decide +kernel
theorem zc_274_0 {E : zE} (B : zB E) (A : zA E gJ1) : zH E gJ1 (gm_274, 2) gc_274_0 := z_chk B A zP_nil (by decide) (by decide +kernel) gk_274_0
theorem gk_281_0 : acck gFL gCL gMT gXT gKI gKL gST (gCA []) gJ1 100000 gm_281 (gXT 281) gc_281_0 = true := by decide +kernel
theorem zc_281_0 {E : zE} (B : zB E) (A : zA E gJ1) : zH E gJ1 (gm_281, 2) gc_281_0 := z_chk B A zP_nil (by decide) (by decide +kernel) gk_281_0
theorem gk_282_0 : acck gFL gCL gMT gXT gKI gKL gST (gCA []) gJ1 100000 gm_282 (gXT 282) gc_282_0 = true := by decide +kernel
theorem zc_282_0 {E : zE} (B : zB E) (A : zA E gJ1) : zH E gJ1 (gm_282, 2) gc_282_0 := z_chk B A zP_nil (by decide) (by decide +kernel) gk_282_0
theorem gk_284_0 : acck gFL gCL gMT gXT gKI gKL gST (gCA []) gJ1 100000 gm_284 (gXT 284) gc_284_0 = true := by decide +kernel
theorem zc_284_0 {E : zE} (B : zB E) (A : zA E gJ1) : zH E gJ1 (gm_284, 5) gc_284_0 := z_chk B A zP_nil (by decide) (by decide +kernel) gk_284_0
theorem gk_285_0 : acck gFL gCL gMT gXT gKI gKL gST (gCA []) gJ1 100000 gm_285 (gXT 285) gc_285_0 = true := by decide +kernel
theorem zc_285_0 {E : zE} (B : zB E) (A : zA E gJ1) : zH E gJ1 (gm_285, 2) gc_285_0 := z_chk B A zP_nil (by decide) (by decide +kernel) gk_285_0
theorem gk_295_0 : acck gFL gCL gMT gXT gKI gKL gST (gCA []) gJ1 100000 gm_295 (gXT 295) gc_295_0 = true := by decide +kernel
theorem zc_295_0 {E : zE} (B : zB E) (A : zA E gJ1) : zH E gJ1 (gm_295, 4) gc_295_0 := z_chk B A zP_nil (by decide) (by decide +kernel) gk_295_0
theorem gk_12_0 : acck gFL gCL gMT gXT gKI gKL gST (gCA [(24, [gc_24_0])]) gJ1 100000 gm_12 (gXT 12) gc_12_0 = true := by decide +kernel
theorem zc_12_0 {E : zE} (B : zB E) (A : zA E gJ1) : zH E gJ1 (gm_12, 4) gc_12_0 := z_chk B A (zP_cons rfl (zF_cons (zc_24_0 B A) zF_nil) zP_nil) (by decide) (by decide +kernel) gk_12_0
theorem gk_14_0 : acck gFL gCL gMT gXT gKI gKL gST (gCA [(78, [gc_78_0])]) gJ1 100000 gm_14 (gXT 14) gc_14_0 = true := by decide +kernel
theorem zc_14_0 {E : zE} (B : zB E) (A : zA E gJ1) : zH E gJ1 (gm_14, 5) gc_14_0 := z_chk B A (zP_cons rfl (zF_cons (zc_78_0 B A) zF_nil) zP_nil) (by decide) (by decide +kernel) gk_14_0
theorem gk_29_0 : acck gFL gCL gMT gXT gKI gKL gST (gCA [(78, [gc_78_0])]) gJ1 100000 gm_29 (gXT 29) gc_29_0 = true := by decide +kernel
theorem zc_29_0 {E : zE} (B : zB E) (A : zA E gJ1) : zH E gJ1 (gm_29, 6) gc_29_0 := z_chk B A (zP_cons rfl (zF_cons (zc_78_0 B A) zF_nil) zP_nil) (by decide) (by decide +kernel) gk_29_0
theorem gk_30_0 : acck gFL gCL gMT gXT gKI gKL gST (gCA [(31, [gc_31_0]), (33, [gc_33_0])]) gJ1 100000 gm_30 (gXT 30) gc_30_0 = true := by decide +kernel
theorem zc_30_0 {E : zE} (B : zB E) (A : zA E gJ1) : zH E gJ1 (gm_30, 5) gc_30_0 := z_chk B A (zP_cons rfl (zF_cons (zc_31_0 B A) zF_nil) (zP_cons rfl (zF_cons (zc_33_0 B A) zF_nil) zP_nil)) (by decide) (by decide +kernel) gk_30_0
theorem gk_32_0 : acck gFL gCL gMT gXT gKI gKL gST (gCA [(78, [gc_78_0])]) gJ1 100000 gm_32 (gXT 32) gc_32_0 = true := by decide +kernel
theorem zc_32_0 {E : zE} (B : zB E) (A : zA E gJ1) : zH E gJ1 (gm_32, 6) gc_32_0 := z_chk B A (zP_cons rfl (zF_cons (zc_78_0 B A) zF_nil) zP_nil) (by decide) (by decide +kernel) gk_32_0
theorem gk_35_0 : acck gFL gCL gMT gXT gKI gKL gST (gCA [(34, [gc_34_0])]) gJ1 100000 gm_35 (gXT 35) gc_35_0 = true := by decide +kernel
theorem zc_35_0 {E : zE} (B : zB E) (A : zA E gJ1) : zH E gJ1 (gm_35, 4) gc_35_0 := z_chk B A (zP_cons rfl (zF_cons (zc_34_0 B A) zF_nil) zP_nil) (by decide) (by decide +kernel) gk_35_0
theorem gk_36_0 : acck gFL gCL gMT gXT gKI gKL gST (gCA [(41, [gc_41_0])]) gJ1 100000 gm_36 (gXT 36) gc_36_0 = true := by decide +kernel
theorem zc_36_0 {E : zE} (B : zB E) (A : zA E gJ1) : zH E gJ1 (gm_36, 4) gc_36_0 := z_chk B A (zP_cons rfl (zF_cons (zc_41_0 B A) zF_nil) zP_nil) (by decide) (by decide +kernel) gk_36_0
theorem gk_57_0 : acck gFL gCL gMT gXT gKI gKL gST (gCA [(18, [gc_18_0]), (89, [gc_89_0]), (92, [gc_92_0])]) gJ1 100000 gm_57 (gXT 57) gc_57_0 = true := by decide +kernel
theorem zc_57_0 {E : zE} (B : zB E) (A : zA E gJ1) : zH E gJ1 (gm_57, 10) gc_57_0 := z_chk B A (zP_cons rfl (zF_cons (zc_18_0 B A) zF_nil) (zP_cons rfl (zF_cons (zc_89_0 B A) zF_nil) (zP_cons rfl (zF_cons (zc_92_0 B A) zF_nil) zP_nil))) (by decide) (by decide +kernel) gk_57_0
theorem gk_72_0 : acck gFL gCL gMT gXT gKI gKL gST (gCA [(70, [gc_70_0])]) gJ1 100000 gm_72 (gXT 72) gc_72_0 = true := by decide +kernel
theorem zc_72_0 {E : zE} (B : zB E) (A : zA E gJ1) : zH E gJ1 (gm_72, 5) gc_72_0 := z_chk B A (zP_cons rfl (zF_cons (zc_70_0 B A) zF_nil) zP_nil) (by decide) (by decide +kernel) gk_72_0
theorem gk_105_0 : acck gFL gCL gMT gXT gKI gKL gST (gCA [(78, [gc_78_0])]) gJ1 100000 gm_105 (gXT 105) gc_105_0 = true := by decide +kernel
theorem zc_105_0 {E : zE} (B : zB E) (A : zA E gJ1) : zH E gJ1 (gm_105, 8) gc_105_0 := z_chk B A (zP_cons rfl (zF_cons (zc_78_0 B A) zF_nil) zP_nil) (by decide) (by decide +kernel) gk_105_0
theorem gk_107_0 : acck gFL gCL gMT gXT gKI gKL gST (gCA [(106, [gc_106_0])]) gJ1 100000 gm_107 (gXT 107) gc_107_0 = true := by decide +kernel
theorem zc_107_0 {E : zE} (B : zB E) (A : zA E gJ1) : zH E gJ1 (gm_107, 5) gc_107_0 := z_chk B A (zP_cons rfl (zF_cons (zc_106_0 B A) zF_nil) zP_nil) (by decide) (by decide +kernel) gk_107_0
theorem gk_109_0 : acck gFL gCL gMT gXT gKI gKL gST (gCA [(78, [gc_78_0]), (102, [gc_102_0])]) gJ1 100000 gm_109 (gXT 109) gc_109_0 = true := by decide +kernel
theorem zc_109_0 {E : zE} (B : zB E) (A : zA E gJ1) : zH E gJ1 (gm_109, 10) gc_109_0 := z_chk B A (zP_cons rfl (zF_cons (zc_78_0 B A) zF_nil) (zP_cons rfl (zF_cons (zc_102_0 B A) zF_nil) zP_nil)) (by decide) (by decide +kernel) gk_109_0
theorem gk_119_0 : acck gFL gCL gMT gXT gKI gKL gST (gCA [(78, [gc_78_0]), (102, [gc_102_0])]) gJ1 100000 gm_119 (gXT 119) gc_119_0 = true := by decide +kernel
theorem zc_119_0 {E : zE} (B : zB E) (A : zA E gJ1) : zH E gJ1 (gm_119, 6) gc_119_0 := z_chk B A (zP_cons rfl (zF_cons (zc_78_0 B A) zF_nil) (zP_cons rfl (zF_cons (zc_102_0 B A) zF_nil) zP_nil)) (by decide) (by decide +kernel) gk_119_0
theorem gk_128_0 : acck gFL gCL gMT gXT gKI gKL gST (gCA [(61, [gc_61_0])]) gJ1 100000 gm_128 (gXT 128) gc_128_0 = true := by decide +kernel
theorem zc_128_0 {E : zE} (B : zB E) (A : zA E gJ1) : zH E gJ1 (gm_128, 6) gc_128_0 := z_chk B A (zP_cons rfl (zF_cons (zc_61_0 B A) zF_nil) zP_nil) (by decide) (by decide +kernel) gk_128_0
theorem gk_131_0 : acck gFL gCL gMT gXT gKI gKL gST (gCA [(134, [gc_134_0]), (137, [gc_137_0])]) gJ1 100000 gm_131 (gXT 131) gc_131_0 = true := by decide +kernel
theorem zc_131_0 {E : zE} (B : zB E) (A : zA E gJ1) : zH E gJ1 (gm_131, 5) gc_131_0 := z_chk B A (zP_cons rfl (zF_cons (zc_134_0 B A) zF_nil) (zP_cons rfl (zF_cons (zc_137_0 B A) zF_nil) zP_nil)) (by decide) (by decide +kernel) gk_131_0
theorem gk_133_0 : acck gFL gCL gMT gXT gKI gKL gST (gCA [(24, [gc_24_0])]) gJ1 100000 gm_133 (gXT 133) gc_133_0 = true := by decide +kernel
theorem zc_133_0 {E : zE} (B : zB E) (A : zA E gJ1) : zH E gJ1 (gm_133, 2) gc_133_0 := z_chk B A (zP_cons rfl (zF_cons (zc_24_0 B A) zF_nil) zP_nil) (by decide) (by decide +kernel) gk_133_0
theorem gk_135_0 : acck gFL gCL gMT gXT gKI gKL gST (gCA [(11, [gc_11_0]), (79, [gc_79_0])]) gJ1 100000 gm_135 (gXT 135) gc_135_0 = true := by decide +kernel
theorem zc_135_0 {E : zE} (B : zB E) (A : zA E gJ1) : zH E gJ1 (gm_135, 2) gc_135_0 := z_chk B A (zP_cons rfl (zF_cons (zc_11_0 B A) zF_nil) (zP_cons rfl (zF_cons (zc_79_0 B A) zF_nil) zP_nil)) (by decide) (by decide +kernel) gk_135_0
theorem gk_138_0 : acck gFL gCL gMT gXT gKI gKL gST (gCA [(19, [gc_19_0])]) gJ1 100000 gm_138 (gXT 138) gc_138_0 = true := by decide +kernel
theorem zc_138_0 {E : zE} (B : zB E) (A : zA E gJ1) : zH E gJ1 (gm_138, 4) gc_138_0 := z_chk B A (zP_cons rfl (zF_cons (zc_19_0 B A) zF_nil) zP_nil) (by decide) (by decide +kernel) gk_138_0
theorem gk_145_0 : acck gFL gCL gMT gXT gKI gKL gST (gCA [(11, [gc_11_0])]) gJ1 100000 gm_145 (gXT 145) gc_145_0 = true := by decide +kernel
theorem zc_145_0 {E : zE} (B : zB E) (A : zA E gJ1) : zH E gJ1 (gm_145, 2) gc_145_0 := z_chk B A (zP_cons rfl (zF_cons (zc_11_0 B A) zF_nil) zP_nil) (by decide) (by decide +kernel) gk_145_0
theorem gk_146_0 : acck gFL gCL gMT gXT gKI gKL gST (gCA [(11, [gc_11_0]), (22, [gc_22_0])]) gJ1 100000 gm_146 (gXT 146) gc_146_0 = true := by decide +kernel
theorem zc_146_0 {E : zE} (B : zB E) (A : zA E gJ1) : zH E gJ1 (gm_146, 4) gc_146_0 := z_chk B A (zP_cons rfl (zF_cons (zc_11_0 B A) zF_nil) (zP_cons rfl (zF_cons (zc_22_0 B A) zF_nil) zP_nil)) (by decide) (by decide +kernel) gk_146_0
