theorem gk_112_0 : acck gFL gCL gMT gXT gKI gKL gST (gCA []) gJ1 100000 gm_112 (gXT 112) gc_112_0 = true := by decide +kernel
theorem zc_112_0 {E : zE} (B : zB E) (A : zA E gJ1) : zH E gJ1 (gm_112, 1) gc_112_0 := z_chk B A zP_nil (by decide) (by decide +kernel) gk_112_0
theorem gk_117_0 : acck gFL gCL gMT gXT gKI gKL gST (gCA []) gJ1 100000 gm_117 (gXT 117) gc_117_0 = true := by decide +kernel
theorem zc_117_0 {E : zE} (B : zB E) (A : zA E gJ1) : zH E gJ1 (gm_117, 2) gc_117_0 := z_chk B A zP_nil (by decide) (by decide +kernel) gk_117_0
theorem gk_121_0 : acck gFL gCL gMT gXT gKI gKL gST (gCA []) gJ1 100000 gm_121 (gXT 121) gc_121_0 = true := by decide +kernel
theorem zc_121_0 {E : zE} (B : zB E) (A : zA E gJ1) : zH E gJ1 (gm_121, 2) gc_121_0 := z_chk B A zP_nil (by decide) (by decide +kernel) gk_121_0
theorem gk_125_0 : acck gFL gCL gMT gXT gKI gKL gST (gCA []) gJ1 100000 gm_125 (gXT 125) gc_125_0 = true := by decide +kernel
theorem zc_125_0 {E : zE} (B : zB E) (A : zA E gJ1) : zH E gJ1 (gm_125, 2) gc_125_0 := z_chk B A zP_nil (by decide) (by decide +kernel) gk_125_0
theorem gk_127_0 : acck gFL gCL gMT gXT gKI gKL gST (gCA []) gJ1 100000 gm_127 (gXT 127) gc_127_0 = true := by decide +kernel
theorem zc_127_0 {E : zE} (B : zB E) (A : zA E gJ1) : zH E gJ1 (gm_127, 1) gc_127_0 := z_chk B A zP_nil (by decide) (by decide +kernel) gk_127_0
theorem gk_134_0 : acck gFL gCL gMT gXT gKI gKL gST (gCA []) gJ1 100000 gm_134 (gXT 134) gc_134_0 = true := by decide +kernel
theorem zc_134_0 {E : zE} (B : zB E) (A : zA E gJ1) : zH E gJ1 (gm_134, 4) gc_134_0 := z_chk B A zP_nil (by decide) (by decide +kernel) gk_134_0
theorem gk_137_0 : acck gFL gCL gMT gXT gKI gKL gST (gCA []) gJ1 100000 gm_137 (gXT 137) gc_137_0 = true := by decide +kernel
theorem zc_137_0 {E : zE} (B : zB E) (A : zA E gJ1) : zH E gJ1 (gm_137, 4) gc_137_0 := z_chk B A zP_nil (by decide) (by decide +kernel) gk_137_0
theorem gk_142_0 : acck gFL gCL gMT gXT gKI gKL gST (gCA []) gJ1 100000 gm_142 (gXT 142) gc_142_0 = true := by decide +kernel
theorem zc_142_0 {E : zE} (B : zB E) (A : zA E gJ1) : zH E gJ1 (gm_142, 3) gc_142_0 := z_chk B A zP_nil (by decide) (by decide +kernel) gk_142_0
theorem gk_152_0 : acck gFL gCL gMT gXT gKI gKL gST (gCA []) gJ1 100000 gm_152 (gXT 152) gc_152_0 = true := by decide +kernel
theorem zc_152_0 {E : zE} (B : zB E) (A : zA E gJ1) : zH E gJ1 (gm_152, 3) gc_152_0 := z_chk B A zP_nil (by decide) (by decide +kernel) gk_152_0
theorem gk_153_0 : acck gFL gCL gMT gXT gKI gKL gST (gCA []) gJ1 100000 gm_153 (gXT 153) gc_153_0 = true := by decide +kernel
theorem zc_153_0 {E : zE} (B : zB E) (A : zA E gJ1) : zH E gJ1 (gm_153, 2) gc_153_0 := z_chk B A zP_nil (by decide) (by decide +kernel) gk_153_0
theorem gk_164_0 : acck gFL gCL gMT gXT gKI gKL gST (gCA []) gJ1 100000 gm_164 (gXT 164) gc_164_0 = true := by decide +kernel
theorem zc_164_0 {E : zE} (B : zB E) (A : zA E gJ1) : zH E gJ1 (gm_164, 2) gc_164_0 := z_chk B A zP_nil (by decide) (by decide +kernel) gk_164_0
theorem gk_169_0 : acck gFL gCL gMT gXT gKI gKL gST (gCA []) gJ1 100000 gm_169 (gXT 169) gc_169_0 = true := by decide +kernel
theorem zc_169_0 {E : zE} (B : zB E) (A : zA E gJ1) : zH E gJ1 (gm_169, 2) gc_169_0 := z_chk B A zP_nil (by decide) (by decide +kernel) gk_169_0
theorem gk_175_0 : acck gFL gCL gMT gXT gKI gKL gST (gCA []) gJ1 100000 gm_175 (gXT 175) gc_175_0 = true := by decide +kernel
theorem zc_175_0 {E : zE} (B : zB E) (A : zA E gJ1) : zH E gJ1 (gm_175, 1) gc_175_0 := z_chk B A zP_nil (by decide) (by decide +kernel) gk_175_0
theorem gk_177_0 : acck gFL gCL gMT gXT gKI gKL gST (gCA []) gJ1 100000 gm_177 (gXT 177) gc_177_0 = true := by decide +kernel
theorem zc_177_0 {E : zE} (B : zB E) (A : zA E gJ1) : zH E gJ1 (gm_177, 2) gc_177_0 := z_chk B A zP_nil (by decide) (by decide +kernel) gk_177_0
theorem gk_181_0 : acck gFL gCL gMT gXT gKI gKL gST (gCA []) gJ1 100000 gm_181 (gXT 181) gc_181_0 = true := by decide +kernel
theorem zc_181_0 {E : zE} (B : zB E) (A : zA E gJ1) : zH E gJ1 (gm_181, 4) gc_181_0 := z_chk B A zP_nil (by decide) (by decide +kernel) gk_181_0
theorem gk_186_0 : acck gFL gCL gMT gXT gKI gKL gST (gCA []) gJ1 100000 gm_186 (gXT 186) gc_186_0 = true := by decide +kernel
theorem zc_186_0 {E : zE} (B : zB E) (A : zA E gJ1) : zH E gJ1 (gm_186, 2) gc_186_0 := z_chk B A zP_nil (by decide) (by decide +kernel) gk_186_0
theorem gk_195_0 : acck gFL gCL gMT gXT gKI gKL gST (gCA []) gJ1 100000 gm_195 (gXT 195) gc_195_0 = true := by decide +kernel
theorem zc_195_0 {E : zE} (B : zB E) (A : zA E gJ1) : zH E gJ1 (gm_195, 2) gc_195_0 := z_chk B A zP_nil (by decide) (by decide +kernel) gk_195_0
theorem gk_202_0 : acck gFL gCL gMT gXT gKI gKL gST (gCA []) gJ1 100000 gm_202 (gXT 202) gc_202_0 = true := by decide +kernel
theorem zc_202_0 {E : zE} (B : zB E) (A : zA E gJ1) : zH E gJ1 (gm_202, 2) gc_202_0 := z_chk B A zP_nil (by decide) (by decide +kernel) gk_202_0
theorem gk_205_0 : acck gFL gCL gMT gXT gKI gKL gST (gCA []) gJ1 100000 gm_205 (gXT 205) gc_205_0 = true := by decide +kernel
theorem zc_205_0 {E : zE} (B : zB E) (A : zA E gJ1) : zH E gJ1 (gm_205, 1) gc_205_0 := z_chk B A zP_nil (by decide) (by decide +kernel) gk_205_0
theorem gk_206_0 : acck gFL gCL gMT gXT gKI gKL gST (gCA []) gJ1 100000 gm_206 (gXT 206) gc_206_0 = true := by decide +kernel
theorem zc_206_0 {E : zE} (B : zB E) (A : zA E gJ1) : zH E gJ1 (gm_206, 6) gc_206_0 := z_chk B A zP_nil (by decide) (by decide +kernel) gk_206_0
theorem gk_207_0 : acck gFL gCL gMT gXT gKI gKL gST (gCA []) gJ1 100000 gm_207 (gXT 207) gc_207_0 = true := by decide +kernel
theorem zc_207_0 {E : zE} (B : zB E) (A : zA E gJ1) : zH E gJ1 (gm_207, 4) gc_207_0 := z_chk B A zP_nil (by decide) (by decide +kernel) gk_207_0
theorem gk_207_1 : acck gFL gCL gMT gXT gKI gKL gST (gCA []) gJ1 100000 gm_207 (gXT 207) gc_207_1 = true := by decide +kernel
theorem zc_207_1 {E : zE} (B : zB E) (A : zA E gJ1) : zH E gJ1 (gm_207, 4) gc_207_1 := z_chk B A zP_nil (by decide) (by decide +kernel) gk_207_1
theorem gk_207_2 : acck gFL gCL gMT gXT gKI gKL gST (gCA []) gJ1 100000 gm_207 (gXT 207) gc_207_2 = true := by decide +kernel
theorem zc_207_2 {E : zE} (B : zB E) (A : zA E gJ1) : zH E gJ1 (gm_207, 4) gc_207_2 := z_chk B A zP_nil (by decide) (by decide +kernel) gk_207_2
theorem gk_207_3 : acck gFL gCL gMT gXT gKI gKL gST (gCA []) gJ1 100000 gm_207 (gXT 207) gc_207_3 = true := by decide +kernel
theorem zc_207_3 {E : zE} (B : zB E) (A : zA E gJ1) : zH E gJ1 (gm_207, 4) gc_207_3 := z_chk B A zP_nil (by decide) (by decide +kernel) gk_207_3
theorem gk_207_4 : acck gFL gCL gMT gXT gKI gKL gST (gCA []) gJ1 100000 gm_207 (gXT 207) gc_207_4 = true := by decide +kernel
theorem zc_207_4 {E : zE} (B : zB E) (A : zA E gJ1) : zH E gJ1 (gm_207, 4) gc_207_4 := z_chk B A zP_nil (by decide) (by decide +kernel) gk_207_4
theorem gk_223_0 : acck gFL gCL gMT gXT gKI gKL gST (gCA []) gJ1 100000 gm_223 (gXT 223) gc_223_0 = true := by decide +kernel
theorem zc_223_0 {E : zE} (B : zB E) (A : zA E gJ1) : zH E gJ1 (gm_223, 3) gc_223_0 := z_chk B A zP_nil (by decide) (by decide +kernel) gk_223_0
theorem gk_232_0 : acck gFL gCL gMT gXT gKI gKL gST (gCA []) gJ1 100000 gm_232 (gXT 232) gc_232_0 = true := by decide +kernel
theorem zc_232_0 {E : zE} (B : zB E) (A : zA E gJ1) : zH E gJ1 (gm_232, 2) gc_232_0 := z_chk B A zP_nil (by decide) (by decide +kernel) gk_232_0
theorem gk_242_0 : acck gFL gCL gMT gXT gKI gKL gST (gCA []) gJ1 100000 gm_242 (gXT 242) gc_242_0 = true := by decide +kernel
theorem zc_242_0 {E : zE} (B : zB E) (A : zA E gJ1) : zH E gJ1 (gm_242, 6) gc_242_0 := z_chk B A zP_nil (by decide) (by decide +kernel) gk_242_0
theorem gk_249_0 : acck gFL gCL gMT gXT gKI gKL gST (gCA []) gJ1 100000 gm_249 (gXT 249) gc_249_0 = true := by decide +kernel
theorem zc_249_0 {E : zE} (B : zB E) (A : zA E gJ1) : zH E gJ1 (gm_249, 4) gc_249_0 := z_chk B A zP_nil (by decide) (by decide +kernel) gk_249_0
theorem gk_250_0 : acck gFL gCL gMT gXT gKI gKL gST (gCA []) gJ1 100000 gm_250 (gXT 250) gc_250_0 = true := by decide +kernel
theorem zc_250_0 {E : zE} (B : zB E) (A : zA E gJ1) : zH E gJ1 (gm_250, 3) gc_250_0 := z_chk B A zP_nil (by decide) (by decide +kernel) gk_250_0
