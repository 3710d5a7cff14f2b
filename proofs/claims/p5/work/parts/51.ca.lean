theorem gk_10_0 : acck gFL gCL gMT gXT gKI gKL gST (gCA []) gJ1 100000 gm_10 (gXT 10) gc_10_0 = true := by decide +kernel
theorem zc_10_0 {E : zE} (B : zB E) (A : zA E gJ1) : zH E gJ1 (gm_10, 3) gc_10_0 := z_chk B A zP_nil (by decide) (by decide +kernel) gk_10_0
theorem gk_11_0 : acck gFL gCL gMT gXT gKI gKL gST (gCA []) gJ1 100000 gm_11 (gXT 11) gc_11_0 = true := by decide +kernel
theorem zc_11_0 {E : zE} (B : zB E) (A : zA E gJ1) : zH E gJ1 (gm_11, 2) gc_11_0 := z_chk B A zP_nil (by decide) (by decide +kernel) gk_11_0
theorem gk_13_0 : acck gFL gCL gMT gXT gKI gKL gST (gCA []) gJ1 100000 gm_13 (gXT 13) gc_13_0 = true := by decide +kernel
theorem zc_13_0 {E : zE} (B : zB E) (A : zA E gJ1) : zH E gJ1 (gm_13, 1) gc_13_0 := z_chk B A zP_nil (by decide) (by decide +kernel) gk_13_0
theorem gk_18_0 : acck gFL gCL gMT gXT gKI gKL gST (gCA []) gJ1 100000 gm_18 (gXT 18) gc_18_0 = true := by decide +kernel
theorem zc_18_0 {E : zE} (B : zB E) (A : zA E gJ1) : zH E gJ1 (gm_18, 4) gc_18_0 := z_chk B A zP_nil (by decide) (by decide +kernel) gk_18_0
theorem gk_19_0 : acck gFL gCL gMT gXT gKI gKL gST (gCA []) gJ1 100000 gm_19 (gXT 19) gc_19_0 = true := by decide +kernel
theorem zc_19_0 {E : zE} (B : zB E) (A : zA E gJ1) : zH E gJ1 (gm_19, 4) gc_19_0 := z_chk B A zP_nil (by decide) (by decide +kernel) gk_19_0
theorem gk_20_0 : acck gFL gCL gMT gXT gKI gKL gST (gCA []) gJ1 100000 gm_20 (gXT 20) gc_20_0 = true := by decide +kernel
theorem zc_20_0 {E : zE} (B : zB E) (A : zA E gJ1) : zH E gJ1 (gm_20, 4) gc_20_0 := z_chk B A zP_nil (by decide) (by decide +kernel) gk_20_0
theorem gk_22_0 : acck gFL gCL gMT gXT gKI gKL gST (gCA []) gJ1 100000 gm_22 (gXT 22) gc_22_0 = true := by decide +kernel
theorem zc_22_0 {E : zE} (B : zB E) (A : zA E gJ1) : zH E gJ1 (gm_22, 4) gc_22_0 := z_chk B A zP_nil (by decide) (by decide +kernel) gk_22_0
theorem gk_24_0 : acck gFL gCL gMT gXT gKI gKL gST (gCA []) gJ1 100000 gm_24 (gXT 24) gc_24_0 = true := by decide +kernel
theorem zc_24_0 {E : zE} (B : zB E) (A : zA E gJ1) : zH E gJ1 (gm_24, 4) gc_24_0 := z_chk B A zP_nil (by decide) (by decide +kernel) gk_24_0
theorem gk_31_0 : acck gFL gCL gMT gXT gKI gKL gST (gCA []) gJ1 100000 gm_31 (gXT 31) gc_31_0 = true := by decide +kernel
theorem zc_31_0 {E : zE} (B : zB E) (A : zA E gJ1) : zH E gJ1 (gm_31, 12) gc_31_0 := z_chk B A zP_nil (by decide) (by decide +kernel) gk_31_0
theorem gk_33_0 : acck gFL gCL gMT gXT gKI gKL gST (gCA []) gJ1 100000 gm_33 (gXT 33) gc_33_0 = true := by decide +kernel
theorem zc_33_0 {E : zE} (B : zB E) (A : zA E gJ1) : zH E gJ1 (gm_33, 8) gc_33_0 := z_chk B A zP_nil (by decide) (by decide +kernel) gk_33_0
theorem gk_34_0 : acck gFL gCL gMT gXT gKI gKL gST (gCA []) gJ1 100000 gm_34 (gXT 34) gc_34_0 = true := by decide +kernel
theorem zc_34_0 {E : zE} (B : zB E) (A : zA E gJ1) : zH E gJ1 (gm_34, 8) gc_34_0 := z_chk B A zP_nil (by decide) (by decide +kernel) gk_34_0
theorem gk_38_0 : acck gFL gCL gMT gXT gKI gKL gST (gCA []) gJ1 100000 gm_38 (gXT 38) gc_38_0 = true := by decide +kernel
theorem zc_38_0 {E : zE} (B : zB E) (A : zA E gJ1) : zH E gJ1 (gm_38, 5) gc_38_0 := z_chk B A zP_nil (by decide) (by decide +kernel) gk_38_0
theorem gk_39_0 : acck gFL gCL gMT gXT gKI gKL gST (gCA []) gJ1 100000 gm_39 (gXT 39) gc_39_0 = true := by decide +kernel
theorem zc_39_0 {E : zE} (B : zB E) (A : zA E gJ1) : zH E gJ1 (gm_39, 6) gc_39_0 := z_chk B A zP_nil (by decide) (by decide +kernel) gk_39_0
theorem gk_40_0 : acck gFL gCL gMT gXT gKI gKL gST (gCA []) gJ1 100000 gm_40 (gXT 40) gc_40_0 = true := by decide +kernel
theorem zc_40_0 {E : zE} (B : zB E) (A : zA E gJ1) : zH E gJ1 (gm_40, 5) gc_40_0 := z_chk B A zP_nil (by decide) (by decide +kernel) gk_40_0
theorem gk_41_0 : acck gFL gCL gMT gXT gKI gKL gST (gCA []) gJ1 100000 gm_41 (gXT 41) gc_41_0 = true := by decide +kernel
theorem zc_41_0 {E : zE} (B : zB E) (A : zA E gJ1) : zH E gJ1 (gm_41, 5) gc_41_0 := z_chk B A zP_nil (by decide) (by decide +kernel) gk_41_0
theorem gk_61_0 : acck gFL gCL gMT gXT gKI gKL gST (gCA []) gJ1 100000 gm_61 (gXT 61) gc_61_0 = true := by decide +kernel
theorem zc_61_0 {E : zE} (B : zB E) (A : zA E gJ1) : zH E gJ1 (gm_61, 3) gc_61_0 := z_chk B A zP_nil (by decide) (by decide +kernel) gk_61_0
theorem gk_70_0 : acck gFL gCL gMT gXT gKI gKL gST (gCA []) gJ1 100000 gm_70 (gXT 70) gc_70_0 = true := by decide +kernel
theorem zc_70_0 {E : zE} (B : zB E) (A : zA E gJ1) : zH E gJ1 (gm_70, 4) gc_70_0 := z_chk B A zP_nil (by decide) (by decide +kernel) gk_70_0
theorem gk_73_0 : acck gFL gCL gMT gXT gKI gKL gST (gCA []) gJ1 100000 gm_73 (gXT 73) gc_73_0 = true := by decide +kernel
theorem zc_73_0 {E : zE} (B : zB E) (A : zA E gJ1) : zH E gJ1 (gm_73, 3) gc_73_0 := z_chk B A zP_nil (by decide) (by decide +kernel) gk_73_0
theorem gk_78_0 : acck gFL gCL gMT gXT gKI gKL gST (gCA []) gJ1 100000 gm_78 (gXT 78) gc_78_0 = true := by decide +kernel
theorem zc_78_0 {E : zE} (B : zB E) (A : zA E gJ1) : zH E gJ1 (gm_78, 5) gc_78_0 := z_chk B A zP_nil (by decide) (by decide +kernel) gk_78_0
theorem gk_79_0 : acck gFL gCL gMT gXT gKI gKL gST (gCA []) gJ1 100000 gm_79 (gXT 79) gc_79_0 = true := by decide +kernel
theorem zc_79_0 {E : zE} (B : zB E) (A : zA E gJ1) : zH E gJ1 (gm_79, 2) gc_79_0 := z_chk B A zP_nil (by decide) (by decide +kernel) gk_79_0
theorem gk_81_0 : acck gFL gCL gMT gXT gKI gKL gST (gCA []) gJ1 100000 gm_81 (gXT 81) gc_81_0 = true := by decide +kernel
theorem zc_81_0 {E : zE} (B : zB E) (A : zA E gJ1) : zH E gJ1 (gm_81, 7) gc_81_0 := z_chk B A zP_nil (by decide) (by decide +kernel) gk_81_0
theorem gk_81_1 : acck gFL gCL gMT gXT gKI gKL gST (gCA []) gJ1 100000 gm_81 (gXT 81) gc_81_1 = true := by decide +kernel
theorem zc_81_1 {E : zE} (B : zB E) (A : zA E gJ1) : zH E gJ1 (gm_81, 7) gc_81_1 := z_chk B A zP_nil (by decide) (by decide +kernel) gk_81_1
theorem gk_81_2 : acck gFL gCL gMT gXT gKI gKL gST (gCA []) gJ1 100000 gm_81 (gXT 81) gc_81_2 = true := by decide +kernel
theorem zc_81_2 {E : zE} (B : zB E) (A : zA E gJ1) : zH E gJ1 (gm_81, 7) gc_81_2 := z_chk B A zP_nil (by decide) (by decide +kernel) gk_81_2
theorem gk_84_0 : acck gFL gCL gMT gXT gKI gKL gST (gCA []) gJ1 100000 gm_84 (gXT 84) gc_84_0 = true := by decide +kernel
theorem zc_84_0 {E : zE} (B : zB E) (A : zA E gJ1) : zH E gJ1 (gm_84, 4) gc_84_0 := z_chk B A zP_nil (by decide) (by decide +kernel) gk_84_0
theorem gk_89_0 : acck gFL gCL gMT gXT gKI gKL gST (gCA []) gJ1 100000 gm_89 (gXT 89) gc_89_0 = true := by decide +kernel
theorem zc_89_0 {E : zE} (B : zB E) (A : zA E gJ1) : zH E gJ1 (gm_89, 5) gc_89_0 := z_chk B A zP_nil (by decide) (by decide +kernel) gk_89_0
theorem gk_90_0 : acck gFL gCL gMT gXT gKI gKL gST (gCA []) gJ1 100000 gm_90 (gXT 90) gc_90_0 = true := by decide +kernel
theorem zc_90_0 {E : zE} (B : zB E) (A : zA E gJ1) : zH E gJ1 (gm_90, 4) gc_90_0 := z_chk B A zP_nil (by decide) (by decide +kernel) gk_90_0
theorem gk_92_0 : acck gFL gCL gMT gXT gKI gKL gST (gCA []) gJ1 100000 gm_92 (gXT 92) gc_92_0 = true := by decide +kernel
theorem zc_92_0 {E : zE} (B : zB E) (A : zA E gJ1) : zH E gJ1 (gm_92, 4) gc_92_0 := z_chk B A zP_nil (by decide) (by decide +kernel) gk_92_0
theorem gk_102_0 : acck gFL gCL gMT gXT gKI gKL gST (gCA []) gJ1 100000 gm_102 (gXT 102) gc_102_0 = true := by decide +kernel
theorem zc_102_0 {E : zE} (B : zB E) (A : zA E gJ1) : zH E gJ1 (gm_102, 9) gc_102_0 := z_chk B A zP_nil (by decide) (by decide +kernel) gk_102_0
theorem gk_106_0 : acck gFL gCL gMT gXT gKI gKL gST (gCA []) gJ1 100000 gm_106 (gXT 106) gc_106_0 = true := by decide +kernel
theorem zc_106_0 {E : zE} (B : zB E) (A : zA E gJ1) : zH E gJ1 (gm_106, 2) gc_106_0 := z_chk B A zP_nil (by decide) (by decide +kernel) gk_106_0
theorem gk_108_0 : acck gFL gCL gMT gXT gKI gKL gST (gCA []) gJ1 100000 gm_108 (gXT 108) gc_108_0 = true := by decide +kernel
theorem zc_108_0 {E : zE} (B : zB E) (A : zA E gJ1) : zH E gJ1 (gm_108, 7) gc_108_0 := z_chk B A zP_nil (by decide) (by decide +kernel) gk_108_0
