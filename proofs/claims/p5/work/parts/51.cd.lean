theorem gk_149_0 : acck gFL gCL gMT gXT gKI gKL gST (gCA [(10, [gc_10_0]), (19, [gc_19_0])]) gJ1 100000 gm_149 (gXT 149) gc_149_0 = true := by decide +kernel
theorem zc_149_0 {E : zE} (B : zB E) (A : zA E gJ1) : zH E gJ1 (gm_149, 2) gc_149_0 := z_chk B A (zP_cons rfl (zF_cons (zc_10_0 B A) zF_nil) (zP_cons rfl (zF_cons (zc_19_0 B A) zF_nil) zP_nil)) (by decide) (by decide +kernel) gk_149_0
theorem gk_151_0 : acck gFL gCL gMT gXT gKI gKL gST (gCA [(19, [gc_19_0])]) gJ1 100000 gm_151 (gXT 151) gc_151_0 = true := by decide +kernel
theorem zc_151_0 {E : zE} (B : zB E) (A : zA E gJ1) : zH E gJ1 (gm_151, 3) gc_151_0 := z_chk B A (zP_cons rfl (zF_cons (zc_19_0 B A) zF_nil) zP_nil) (by decide) (by decide +kernel) gk_151_0
theorem gk_155_0 : acck gFL gCL gMT gXT gKI gKL gST (gCA [(11, [gc_11_0]), (79, [gc_79_0])]) gJ1 100000 gm_155 (gXT 155) gc_155_0 = true := by decide +kernel
theorem zc_155_0 {E : zE} (B : zB E) (A : zA E gJ1) : zH E gJ1 (gm_155, 2) gc_155_0 := z_chk B A (zP_cons rfl (zF_cons (zc_11_0 B A) zF_nil) (zP_cons rfl (zF_cons (zc_79_0 B A) zF_nil) zP_nil)) (by decide) (by decide +kernel) gk_155_0
theorem gk_160_0 : acck gFL gCL gMT gXT gKI gKL gST (gCA [(11, [gc_11_0]), (20, [gc_20_0])]) gJ1 100000 gm_160 (gXT 160) gc_160_0 = true := by decide +kernel
theorem zc_160_0 {E : zE} (B : zB E) (A : zA E gJ1) : zH E gJ1 (gm_160, 4) gc_160_0 := z_chk B A (zP_cons rfl (zF_cons (zc_11_0 B A) zF_nil) (zP_cons rfl (zF_cons (zc_20_0 B A) zF_nil) zP_nil)) (by decide) (by decide +kernel) gk_160_0
theorem gk_162_0 : acck gFL gCL gMT gXT gKI gKL gST (gCA [(11, [gc_11_0])]) gJ1 100000 gm_162 (gXT 162) gc_162_0 = true := by decide +kernel
theorem zc_162_0 {E : zE} (B : zB E) (A : zA E gJ1) : zH E gJ1 (gm_162, 3) gc_162_0 := z_chk B A (zP_cons rfl (zF_cons (zc_11_0 B A) zF_nil) zP_nil) (by decide) (by decide +kernel) gk_162_0
theorem gk_167_0 : acck gFL gCL gMT gXT gKI gKL gST (gCA [(11, [gc_11_0])]) gJ1 100000 gm_167 (gXT 167) gc_167_0 = true := by decide +kernel
theorem zc_167_0 {E : zE} (B : zB E) (A : zA E gJ1) : zH E gJ1 (gm_167, 1) gc_167_0 := z_chk B A (zP_cons rfl (zF_cons (zc_11_0 B A) zF_nil) zP_nil) (by decide) (by decide +kernel) gk_167_0
theorem gk_172_0 : acck gFL gCL gMT gXT gKI gKL gST (gCA [(11, [gc_11_0])]) gJ1 100000 gm_172 (gXT 172) gc_172_0 = true := by decide +kernel
theorem zc_172_0 {E : zE} (B : zB E) (A : zA E gJ1) : zH E gJ1 (gm_172, 3) gc_172_0 := z_chk B A (zP_cons rfl (zF_cons (zc_11_0 B A) zF_nil) zP_nil) (by decide) (by decide +kernel) gk_172_0
theorem gk_191_0 : acck gFL gCL gMT gXT gKI gKL gST (gCA [(181, [gc_181_0])]) gJ1 100000 gm_191 (gXT 191) gc_191_0 = true := by decide +kernel
theorem zc_191_0 {E : zE} (B : zB E) (A : zA E gJ1) : zH E gJ1 (gm_191, 3) gc_191_0 := z_chk B A (zP_cons rfl (zF_cons (zc_181_0 B A) zF_nil) zP_nil) (by decide) (by decide +kernel) gk_191_0
theorem gk_198_0 : acck gFL gCL gMT gXT gKI gKL gST (gCA [(216, [gc_216_0])]) gJ1 100000 gm_198 (gXT 198) gc_198_0 = true := by decide +kernel
theorem zc_198_0 {E : zE} (B : zB E) (A : zA E gJ1) : zH E gJ1 (gm_198, 4) gc_198_0 := z_chk B A (zP_cons rfl (zF_cons (zc_216 B) zF_nil) zP_nil) (by decide) (by decide +kernel) gk_198_0
theorem gk_213_0 : acck gFL gCL gMT gXT gKI gKL gST (gCA [(249, [gc_249_0])]) gJ1 100000 gm_213 (gXT 213) gc_213_0 = true := by decide +kernel
theorem zc_213_0 {E : zE} (B : zB E) (A : zA E gJ1) : zH E gJ1 (gm_213, 7) gc_213_0 := z_chk B A (zP_cons rfl (zF_cons (zc_249_0 B A) zF_nil) zP_nil) (by decide) (by decide +kernel) gk_213_0
theorem gk_215_0 : acck gFL gCL gMT gXT gKI gKL gST (gCA [(216, [gc_216_0])]) gJ1 100000 gm_215 (gXT 215) gc_215_0 = true := by decide +kernel
theorem zc_215_0 {E : zE} (B : zB E) (A : zA E gJ1) : zH E gJ1 (gm_215, 2) gc_215_0 := z_chk B A (zP_cons rfl (zF_cons (zc_216 B) zF_nil) zP_nil) (by decide) (by decide +kernel) gk_215_0
theorem gk_222_0 : acck gFL gCL gMT gXT gKI gKL gST (gCA [(183, [gc_183_0]), (251, [gc_251_0]), (253, [gc_253_0]), (295, [gc_295_0])]) gJ1 100000 gm_222 (gXT 222) gc_222_0 = true := by decide +kernel
theorem zc_222_0 {E : zE} (B : zB E) (A : zA E gJ1) : zH E gJ1 (gm_222, 6) gc_222_0 := z_chk B A (zP_cons rfl (zF_cons (zc_183 B) zF_nil) (zP_cons rfl (zF_cons (zc_251_0 B A) zF_nil) (zP_cons rfl (zF_cons (zc_253_0 B A) zF_nil) (zP_cons rfl (zF_cons (zc_295_0 B A) zF_nil) zP_nil)))) (by decide) (by decide +kernel) gk_222_0
theorem gk_234_0 : acck gFL gCL gMT gXT gKI gKL gST (gCA [(232, [gc_232_0])]) gJ1 100000 gm_234 (gXT 234) gc_234_0 = true := by decide +kernel
theorem zc_234_0 {E : zE} (B : zB E) (A : zA E gJ1) : zH E gJ1 (gm_234, 2) gc_234_0 := z_chk B A (zP_cons rfl (zF_cons (zc_232_0 B A) zF_nil) zP_nil) (by decide) (by decide +kernel) gk_234_0
theorem gk_235_0 : acck gFL gCL gMT gXT gKI gKL gST (gCA [(232, [gc_232_0])]) gJ1 100000 gm_235 (gXT 235) gc_235_0 = true := by decide +kernel
theorem zc_235_0 {E : zE} (B : zB E) (A : zA E gJ1) : zH E gJ1 (gm_235, 5) gc_235_0 := z_chk B A (zP_cons rfl (zF_cons (zc_232_0 B A) zF_nil) zP_nil) (by decide) (by decide +kernel) gk_235_0
theorem gk_237_0 : acck gFL gCL gMT gXT gKI gKL gST (gCA [(207, [gc_207_0, gc_207_1, gc_207_2, gc_207_3, gc_207_4]), (223, [gc_223_0]), (271, [gc_271_0])]) gJ1 100000 gm_237 (gXT 237) gc_237_0 = true := by decide +kernel
theorem zc_237_0 {E : zE} (B : zB E) (A : zA E gJ1) : zH E gJ1 (gm_237, 3) gc_237_0 := z_chk B A (zP_cons rfl (zF_cons (zc_207_0 B A) (zF_cons (zc_207_1 B A) (zF_cons (zc_207_2 B A) (zF_cons (zc_207_3 B A) (zF_cons (zc_207_4 B A) zF_nil))))) (zP_cons rfl (zF_cons (zc_223_0 B A) zF_nil) (zP_cons rfl (zF_cons (zc_271a B A.2.1) zF_nil) zP_nil))) (by decide) (by decide +kernel) gk_237_0
theorem gk_244_0 : acck gFL gCL gMT gXT gKI gKL gST (gCA [(264, [gc_264_0])]) gJ1 100000 gm_244 (gXT 244) gc_244_0 = true := by decide +kernel
theorem zc_244_0 {E : zE} (B : zB E) (A : zA E gJ1) : zH E gJ1 (gm_244, 2) gc_244_0 := z_chk B A (zP_cons rfl (zF_cons (zc_264_0 B A) zF_nil) zP_nil) (by decide) (by decide +kernel) gk_244_0
theorem gk_248_0 : acck gFL gCL gMT gXT gKI gKL gST (gCA [(264, [gc_264_0])]) gJ1 100000 gm_248 (gXT 248) gc_248_0 = true := by decide +kernel
theorem zc_248_0 {E : zE} (B : zB E) (A : zA E gJ1) : zH E gJ1 (gm_248, 3) gc_248_0 := z_chk B A (zP_cons rfl (zF_cons (zc_264_0 B A) zF_nil) zP_nil) (by decide) (by decide +kernel) gk_248_0
theorem gk_256_0 : acck gFL gCL gMT gXT gKI gKL gST (gCA [(284, [gc_284_0])]) gJ1 100000 gm_256 (gXT 256) gc_256_0 = true := by decide +kernel
theorem zc_256_0 {E : zE} (B : zB E) (A : zA E gJ1) : zH E gJ1 (gm_256, 4) gc_256_0 := z_chk B A (zP_cons rfl (zF_cons (zc_284_0 B A) zF_nil) zP_nil) (by decide) (by decide +kernel) gk_256_0
theorem gk_263_0 : acck gFL gCL gMT gXT gKI gKL gST (gCA [(251, [gc_251_0]), (253, [gc_253_0])]) gJ1 100000 gm_263 (gXT 263) gc_263_0 = true := by decide +kernel
theorem zc_263_0 {E : zE} (B : zB E) (A : zA E gJ1) : zH E gJ1 (gm_263, 3) gc_263_0 := z_chk B A (zP_cons rfl (zF_cons (zc_251_0 B A) zF_nil) (zP_cons rfl (zF_cons (zc_253_0 B A) zF_nil) zP_nil)) (by decide) (by decide +kernel) gk_263_0
theorem gk_266_0 : acck gFL gCL gMT gXT gKI gKL gST (gCA [(232, [gc_232_0])]) gJ1 100000 gm_266 (gXT 266) gc_266_0 = true := by decide +kernel
theorem zc_266_0 {E : zE} (B : zB E) (A : zA E gJ1) : zH E gJ1 (gm_266, 5) gc_266_0 := z_chk B A (zP_cons rfl (zF_cons (zc_232_0 B A) zF_nil) zP_nil) (by decide) (by decide +kernel) gk_266_0
theorem gk_269_0 : acck gFL gCL gMT gXT gKI gKL gST (gCA [(232, [gc_232_0])]) gJ1 100000 gm_269 (gXT 269) gc_269_0 = true := by decide +kernel
theorem zc_269_0 {E : zE} (B : zB E) (A : zA E gJ1) : zH E gJ1 (gm_269, 4) gc_269_0 := z_chk B A (zP_cons rfl (zF_cons (zc_232_0 B A) zF_nil) zP_nil) (by decide) (by decide +kernel) gk_269_0
theorem gk_288_0 : acck gFL gCL gMT gXT gKI gKL gST (gCA [(181, [gc_181_0])]) gJ1 100000 gm_288 (gXT 288) gc_288_0 = true := by decide +kernel
theorem zc_288_0 {E : zE} (B : zB E) (A : zA E gJ1) : zH E gJ1 (gm_288, 3) gc_288_0 := z_chk B A (zP_cons rfl (zF_cons (zc_181_0 B A) zF_nil) zP_nil) (by decide) (by decide +kernel) gk_288_0
theorem gk_294_0 : acck gFL gCL gMT gXT gKI gKL gST (gCA [(232, [gc_232_0])]) gJ1 100000 gm_294 (gXT 294) gc_294_0 = true := by decide +kernel
theorem zc_294_0 {E : zE} (B : zB E) (A : zA E gJ1) : zH E gJ1 (gm_294, 4) gc_294_0 := z_chk B A (zP_cons rfl (zF_cons (zc_232_0 B A) zF_nil) zP_nil) (by decide) (by decide +kernel) gk_294_0
theorem gk_21_0 : acck gFL gCL gMT gXT gKI gKL gST (gCA [(12, [gc_12_0])]) gJ1 100000 gm_21 (gXT 21) gc_21_0 = true := by decide +kernel
theorem zc_21_0 {E : zE} (B : zB E) (A : zA E gJ1) : zH E gJ1 (gm_21, 3) gc_21_0 := z_chk B A (zP_cons rfl (zF_cons (zc_12_0 B A) zF_nil) zP_nil) (by decide) (by decide +kernel) gk_21_0
theorem gk_26_0 : acck gFL gCL gMT gXT gKI gKL gST (gCA [(14, [gc_14_0]), (20, [gc_20_0]), (22, [gc_22_0])]) gJ1 100000 gm_26 (gXT 26) gc_26_0 = true := by decide +kernel
theorem zc_26_0 {E : zE} (B : zB E) (A : zA E gJ1) : zH E gJ1 (gm_26, 9) gc_26_0 := z_chk B A (zP_cons rfl (zF_cons (zc_14_0 B A) zF_nil) (zP_cons rfl (zF_cons (zc_20_0 B A) zF_nil) (zP_cons rfl (zF_cons (zc_22_0 B A) zF_nil) zP_nil))) (by decide) (by decide +kernel) gk_26_0
theorem gk_37_0 : acck gFL gCL gMT gXT gKI gKL gST (gCA [(35, [gc_35_0]), (40, [gc_40_0])]) gJ1 100000 gm_37 (gXT 37) gc_37_0 = true := by decide +kernel
theorem zc_37_0 {E : zE} (B : zB E) (A : zA E gJ1) : zH E gJ1 (gm_37, 4) gc_37_0 := z_chk B A (zP_cons rfl (zF_cons (zc_35_0 B A) zF_nil) (zP_cons rfl (zF_cons (zc_40_0 B A) zF_nil) zP_nil)) (by decide) (by decide +kernel) gk_37_0
theorem gk_42_0 : acck gFL gCL gMT gXT gKI gKL gST (gCA [(36, [gc_36_0]), (38, [gc_38_0]), (39, [gc_39_0])]) gJ1 100000 gm_42 (gXT 42) gc_42_0 = true := by decide +kernel
theorem zc_42_0 {E : zE} (B : zB E) (A : zA E gJ1) : zH E gJ1 (gm_42, 6) gc_42_0 := z_chk B A (zP_cons rfl (zF_cons (zc_36_0 B A) zF_nil) (zP_cons rfl (zF_cons (zc_38_0 B A) zF_nil) (zP_cons rfl (zF_cons (zc_39_0 B A) zF_nil) zP_nil))) (by decide) (by decide +kernel) gk_42_0
theorem gk_59_0 : acck gFL gCL gMT gXT gKI gKL gST (gCA [(19, [gc_19_0]), (57, [gc_57_0]), (90, [gc_90_0])]) gJ1 100000 gm_59 (gXT 59) gc_59_0 = true := by decide +kernel
theorem zc_59_0 {E : zE} (B : zB E) (A : zA E gJ1) : zH E gJ1 (gm_59, 6) gc_59_0 := z_chk B A (zP_cons rfl (zF_cons (zc_19_0 B A) zF_nil) (zP_cons rfl (zF_cons (zc_57_0 B A) zF_nil) (zP_cons rfl (zF_cons (zc_90_0 B A) zF_nil) zP_nil))) (by decide) (by decide +kernel) gk_59_0
theorem gk_60_0 : acck gFL gCL gMT gXT gKI gKL gST (gCA [(72, [gc_72_0]), (73, [gc_73_0])]) gJ1 100000 gm_60 (gXT 60) gc_60_0 = true := by decide +kernel
theorem zc_60_0 {E : zE} (B : zB E) (A : zA E gJ1) : zH E gJ1 (gm_60, 2) gc_60_0 := z_chk B A (zP_cons rfl (zF_cons (zc_72_0 B A) zF_nil) (zP_cons rfl (zF_cons (zc_73_0 B A) zF_nil) zP_nil)) (by decide) (by decide +kernel) gk_60_0
theorem gk_103_0 : acck gFL gCL gMT gXT gKI gKL gST (gCA [(109, [gc_109_0])]) gJ1 100000 gm_103 (gXT 103) gc_103_0 = true := by decide +kernel
theorem zc_103_0 {E : zE} (B : zB E) (A : zA E gJ1) : zH E gJ1 (gm_103, 11) gc_103_0 := z_chk B A (zP_cons rfl (zF_cons (zc_109_0 B A) zF_nil) zP_nil) (by decide) (by decide +kernel) gk_103_0
