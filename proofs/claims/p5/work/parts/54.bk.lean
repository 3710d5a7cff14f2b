theorem gkb_177_0 : acck gFL gCL gMT gXT gKI gKL gST (gCA []) gjl 100000 gm_177 (gXT 177) gc_177_0 = true := by decide +kernel
theorem zcb_177_0 {E : zE} (B : zB E) (A : zA E gjl) : zH E gjl (gm_177, 2) gc_177_0 := z_chk B A zP_nil (by decide) (by decide +kernel) gkb_177_0
theorem gkb_181_0 : acck gFL gCL gMT gXT gKI gKL gST (gCA []) gjl 100000 gm_181 (gXT 181) gc_181_0 = true := by decide +kernel
theorem zcb_181_0 {E : zE} (B : zB E) (A : zA E gjl) : zH E gjl (gm_181, 4) gc_181_0 := z_chk B A zP_nil (by decide) (by decide +kernel) gkb_181_0
theorem gkb_207_0 : acck gFL gCL gMT gXT gKI gKL gST (gCA []) gjl 100000 gm_207 (gXT 207) gc_207_0 = true := by decide +kernel
theorem zcb_207_0 {E : zE} (B : zB E) (A : zA E gjl) : zH E gjl (gm_207, 4) gc_207_0 := z_chk B A zP_nil (by decide) (by decide +kernel) gkb_207_0
theorem gkb_207_1 : acck gFL gCL gMT gXT gKI gKL gST (gCA []) gjl 100000 gm_207 (gXT 207) gc_207_1 = true := by decide +kernel
theorem zcb_207_1 {E : zE} (B : zB E) (A : zA E gjl) : zH E gjl (gm_207, 4) gc_207_1 := z_chk B A zP_nil (by decide) (by decide +kernel) gkb_207_1
theorem gkb_207_2 : acck gFL gCL gMT gXT gKI gKL gST (gCA []) gjl 100000 gm_207 (gXT 207) gc_207_2 = true := by decide +kernel
theorem zcb_207_2 {E : zE} (B : zB E) (A : zA E gjl) : zH E gjl (gm_207, 4) gc_207_2 := z_chk B A zP_nil (by decide) (by decide +kernel) gkb_207_2
theorem gkb_207_3 : acck gFL gCL gMT gXT gKI gKL gST (gCA []) gjl 100000 gm_207 (gXT 207) gc_207_3 = true := by decide +kernel
theorem zcb_207_3 {E : zE} (B : zB E) (A : zA E gjl) : zH E gjl (gm_207, 4) gc_207_3 := z_chk B A zP_nil (by decide) (by decide +kernel) gkb_207_3
theorem gkb_207_4 : acck gFL gCL gMT gXT gKI gKL gST (gCA []) gjl 100000 gm_207 (gXT 207) gc_207_4 = true := by decide +kernel
theorem zcb_207_4 {E : zE} (B : zB E) (A : zA E gjl) : zH E gjl (gm_207, 4) gc_207_4 := z_chk B A zP_nil (by decide) (by decide +kernel) gkb_207_4
theorem gkb_223_0 : acck gFL gCL gMT gXT gKI gKL gST (gCA []) gjl 100000 gm_223 (gXT 223) gc_223_0 = true := by decide +kernel
theorem zcb_223_0 {E : zE} (B : zB E) (A : zA E gjl) : zH E gjl (gm_223, 3) gc_223_0 := z_chk B A zP_nil (by decide) (by decide +kernel) gkb_223_0
theorem gkb_232_0 : acck gFL gCL gMT gXT gKI gKL gST (gCA []) gjl 100000 gm_232 (gXT 232) gc_232_0 = true := by decide +kernel
theorem zcb_232_0 {E : zE} (B : zB E) (A : zA E gjl) : zH E gjl (gm_232, 2) gc_232_0 := z_chk B A zP_nil (by decide) (by decide +kernel) gkb_232_0
theorem gkb_281_0 : acck gFL gCL gMT gXT gKI gKL gST (gCA []) gjl 100000 gm_281 (gXT 281) gc_281_0 = true := by decide +kernel
theorem zcb_281_0 {E : zE} (B : zB E) (A : zA E gjl) : zH E gjl (gm_281, 2) gc_281_0 := z_chk B A zP_nil (by decide) (by decide +kernel) gkb_281_0
theorem gkb_191_0 : acck gFL gCL gMT gXT gKI gKL gST (gCA [(181, [gc_181_0])]) gjl 100000 gm_191 (gXT 191) gc_191_0 = true := by decide +kernel
theorem zcb_191_0 {E : zE} (B : zB E) (A : zA E gjl) : zH E gjl (gm_191, 3) gc_191_0 := z_chk B A (zP_cons rfl (zF_cons (zcb_181_0 B A) zF_nil) zP_nil) (by decide) (by decide +kernel) gkb_191_0
theorem gkb_198_0 : acck gFL gCL gMT gXT gKI gKL gST (gCA [(216, [gc_216_0])]) gjl 100000 gm_198 (gXT 198) gc_198_0 = true := by decide +kernel
theorem zcb_198_0 {E : zE} (B : zB E) (A : zA E gjl) : zH E gjl (gm_198, 4) gc_198_0 := z_chk B A (zP_cons rfl (zF_cons (zc_216 B) zF_nil) zP_nil) (by decide) (by decide +kernel) gkb_198_0
theorem gkb_288_0 : acck gFL gCL gMT gXT gKI gKL gST (gCA [(181, [gc_181_0])]) gjl 100000 gm_288 (gXT 288) gc_288_0 = true := by decide +kernel
theorem zcb_288_0 {E : zE} (B : zB E) (A : zA E gjl) : zH E gjl (gm_288, 3) gc_288_0 := z_chk B A (zP_cons rfl (zF_cons (zcb_181_0 B A) zF_nil) zP_nil) (by decide) (by decide +kernel) gkb_288_0
theorem gkb_188_0 : acck gFL gCL gMT gXT gKI gKL gST (gCA [(198, [gc_198_0])]) gjl 100000 gm_188 (gXT 188) gc_188_0 = true := by decide +kernel
theorem zcb_188_0 {E : zE} (B : zB E) (A : zA E gjl) : zH E gjl (gm_188, 3) gc_188_0 := z_chk B A (zP_cons rfl (zF_cons (zcb_198_0 B A) zF_nil) zP_nil) (by decide) (by decide +kernel) gkb_188_0
theorem gkb_240_0 : acck gFL gCL gMT gXT gKI gKL gST (gCA [(188, [gc_188_0]), (191, [gc_191_0])]) gjl 100000 gm_240 (gXT 240) gc_240_0 = true := by decide +kernel
theorem zcb_240_0 {E : zE} (B : zB E) (A : zA E gjl) : zH E gjl (gm_240, 3) gc_240_0 := z_chk B A (zP_cons rfl (zF_cons (zcb_188_0 B A) zF_nil) (zP_cons rfl (zF_cons (zcb_191_0 B A) zF_nil) zP_nil)) (by decide) (by decide +kernel) gkb_240_0
