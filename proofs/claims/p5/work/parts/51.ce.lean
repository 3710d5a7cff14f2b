theorem gk_104_0 : acck gFL gCL gMT gXT gKI gKL gST (gCA [(78, [gc_78_0]), (102, [gc_102_0]), (105, [gc_105_0]), (107, [gc_107_0])]) gJ1 100000 gm_104 (gXT 104) gc_104_0 = true := by decide +kernel
theorem zc_104_0 {E : zE} (B : zB E) (A : zA E gJ1) : zH E gJ1 (gm_104, 8) gc_104_0 := z_chk B A (zP_cons rfl (zF_cons (zc_78_0 B A) zF_nil) (zP_cons rfl (zF_cons (zc_102_0 B A) zF_nil) (zP_cons rfl (zF_cons (zc_105_0 B A) zF_nil) (zP_cons rfl (zF_cons (zc_107_0 B A) zF_nil) zP_nil)))) (by decide) (by decide +kernel) gk_104_0
theorem gk_114_0 : acck gFL gCL gMT gXT gKI gKL gST (gCA [(109, [gc_109_0])]) gJ1 100000 gm_114 (gXT 114) gc_114_0 = true := by decide +kernel
theorem zc_114_0 {E : zE} (B : zB E) (A : zA E gJ1) : zH E gJ1 (gm_114, 2) gc_114_0 := z_chk B A (zP_cons rfl (zF_cons (zc_109_0 B A) zF_nil) zP_nil) (by decide) (by decide +kernel) gk_114_0
theorem gk_122_0 : acck gFL gCL gMT gXT gKI gKL gST (gCA [(30, [gc_30_0])]) gJ1 100000 gm_122 (gXT 122) gc_122_0 = true := by decide +kernel
theorem zc_122_0 {E : zE} (B : zB E) (A : zA E gJ1) : zH E gJ1 (gm_122, 2) gc_122_0 := z_chk B A (zP_cons rfl (zF_cons (zc_30_0 B A) zF_nil) zP_nil) (by decide) (by decide +kernel) gk_122_0
theorem gk_123_0 : acck gFL gCL gMT gXT gKI gKL gST (gCA [(11, [gc_11_0]), (12, [gc_12_0])]) gJ1 100000 gm_123 (gXT 123) gc_123_0 = true := by decide +kernel
theorem zc_123_0 {E : zE} (B : zB E) (A : zA E gJ1) : zH E gJ1 (gm_123, 2) gc_123_0 := z_chk B A (zP_cons rfl (zF_cons (zc_11_0 B A) zF_nil) (zP_cons rfl (zF_cons (zc_12_0 B A) zF_nil) zP_nil)) (by decide) (by decide +kernel) gk_123_0
theorem gk_129_0 : acck gFL gCL gMT gXT gKI gKL gST (gCA [(32, [gc_32_0])]) gJ1 100000 gm_129 (gXT 129) gc_129_0 = true := by decide +kernel
theorem zc_129_0 {E : zE} (B : zB E) (A : zA E gJ1) : zH E gJ1 (gm_129, 2) gc_129_0 := z_chk B A (zP_cons rfl (zF_cons (zc_32_0 B A) zF_nil) zP_nil) (by decide) (by decide +kernel) gk_129_0
theorem gk_130_0 : acck gFL gCL gMT gXT gKI gKL gST (gCA [(11, [gc_11_0]), (14, [gc_14_0])]) gJ1 100000 gm_130 (gXT 130) gc_130_0 = true := by decide +kernel
theorem zc_130_0 {E : zE} (B : zB E) (A : zA E gJ1) : zH E gJ1 (gm_130, 3) gc_130_0 := z_chk B A (zP_cons rfl (zF_cons (zc_11_0 B A) zF_nil) (zP_cons rfl (zF_cons (zc_14_0 B A) zF_nil) zP_nil)) (by decide) (by decide +kernel) gk_130_0
theorem gk_148_0 : acck gFL gCL gMT gXT gKI gKL gST (gCA [(90, [gc_90_0]), (138, [gc_138_0])]) gJ1 100000 gm_148 (gXT 148) gc_148_0 = true := by decide +kernel
theorem zc_148_0 {E : zE} (B : zB E) (A : zA E gJ1) : zH E gJ1 (gm_148, 3) gc_148_0 := z_chk B A (zP_cons rfl (zF_cons (zc_90_0 B A) zF_nil) (zP_cons rfl (zF_cons (zc_138_0 B A) zF_nil) zP_nil)) (by decide) (by decide +kernel) gk_148_0
theorem gk_158_0 : acck gFL gCL gMT gXT gKI gKL gST (gCA [(11, [gc_11_0]), (12, [gc_12_0]), (19, [gc_19_0])]) gJ1 100000 gm_158 (gXT 158) gc_158_0 = true := by decide +kernel
theorem zc_158_0 {E : zE} (B : zB E) (A : zA E gJ1) : zH E gJ1 (gm_158, 5) gc_158_0 := z_chk B A (zP_cons rfl (zF_cons (zc_11_0 B A) zF_nil) (zP_cons rfl (zF_cons (zc_12_0 B A) zF_nil) (zP_cons rfl (zF_cons (zc_19_0 B A) zF_nil) zP_nil))) (by decide) (by decide +kernel) gk_158_0
theorem gk_163_0 : acck gFL gCL gMT gXT gKI gKL gST (gCA [(29, [gc_29_0])]) gJ1 100000 gm_163 (gXT 163) gc_163_0 = true := by decide +kernel
theorem zc_163_0 {E : zE} (B : zB E) (A : zA E gJ1) : zH E gJ1 (gm_163, 2) gc_163_0 := z_chk B A (zP_cons rfl (zF_cons (zc_29_0 B A) zF_nil) zP_nil) (by decide) (by decide +kernel) gk_163_0
theorem gk_171_0 : acck gFL gCL gMT gXT gKI gKL gST (gCA [(119, [gc_119_0])]) gJ1 100000 gm_171 (gXT 171) gc_171_0 = true := by decide +kernel
theorem zc_171_0 {E : zE} (B : zB E) (A : zA E gJ1) : zH E gJ1 (gm_171, 3) gc_171_0 := z_chk B A (zP_cons rfl (zF_cons (zc_119_0 B A) zF_nil) zP_nil) (by decide) (by decide +kernel) gk_171_0
theorem gk_188_0 : acck gFL gCL gMT gXT gKI gKL gST (gCA [(198, [gc_198_0])]) gJ1 100000 gm_188 (gXT 188) gc_188_0 = true := by decide +kernel
theorem zc_188_0 {E : zE} (B : zB E) (A : zA E gJ1) : zH E gJ1 (gm_188, 3) gc_188_0 := z_chk B A (zP_cons rfl (zF_cons (zc_198_0 B A) zF_nil) zP_nil) (by decide) (by decide +kernel) gk_188_0
theorem gk_189_0 : acck gFL gCL gMT gXT gKI gKL gST (gCA [(191, [gc_191_0])]) gJ1 100000 gm_189 (gXT 189) gc_189_0 = true := by decide +kernel
theorem zc_189_0 {E : zE} (B : zB E) (A : zA E gJ1) : zH E gJ1 (gm_189, 4) gc_189_0 := z_chk B A (zP_cons rfl (zF_cons (zc_191_0 B A) zF_nil) zP_nil) (by decide) (by decide +kernel) gk_189_0
theorem gk_197_0 : acck gFL gCL gMT gXT gKI gKL gST (gCA [(198, [gc_198_0]), (232, [gc_232_0])]) gJ1 100000 gm_197 (gXT 197) gc_197_0 = true := by decide +kernel
theorem zc_197_0 {E : zE} (B : zB E) (A : zA E gJ1) : zH E gJ1 (gm_197, 2) gc_197_0 := z_chk B A (zP_cons rfl (zF_cons (zc_198_0 B A) zF_nil) (zP_cons rfl (zF_cons (zc_232_0 B A) zF_nil) zP_nil)) (by decide) (by decide +kernel) gk_197_0
theorem gk_203_0 : acck gFL gCL gMT gXT gKI gKL gST (gCA [(204, [gc_204_0])]) gJ1 100000 gm_203 (gXT 203) gc_203_0 = true := by decide +kernel
theorem zc_203_0 {E : zE} (B : zB E) (A : zA E gJ1) : zH E gJ1 (gm_203, 2) gc_203_0 := z_chk B A (zP_cons rfl (zF_cons (zc_204 B) zF_nil) zP_nil) (by decide) (by decide +kernel) gk_203_0
theorem gk_211_0 : acck gFL gCL gMT gXT gKI gKL gST (gCA [(232, [gc_232_0]), (288, [gc_288_0])]) gJ1 100000 gm_211 (gXT 211) gc_211_0 = true := by decide +kernel
theorem zc_211_0 {E : zE} (B : zB E) (A : zA E gJ1) : zH E gJ1 (gm_211, 4) gc_211_0 := z_chk B A (zP_cons rfl (zF_cons (zc_232_0 B A) zF_nil) (zP_cons rfl (zF_cons (zc_288_0 B A) zF_nil) zP_nil)) (by decide) (by decide +kernel) gk_211_0
theorem gk_262_0 : acck gFL gCL gMT gXT gKI gKL gST (gCA [(204, [gc_204_0])]) gJ1 100000 gm_262 (gXT 262) gc_262_0 = true := by decide +kernel
theorem zc_262_0 {E : zE} (B : zB E) (A : zA E gJ1) : zH E gJ1 (gm_262, 1) gc_262_0 := z_chk B A (zP_cons rfl (zF_cons (zc_204 B) zF_nil) zP_nil) (by decide) (by decide +kernel) gk_262_0
theorem gk_278_0 : acck gFL gCL gMT gXT gKI gKL gST (gCA [(237, [gc_237_0]), (271, [gc_271_0])]) gJ1 100000 gm_278 (gXT 278) gc_278_0 = true := by decide +kernel
theorem zc_278_0 {E : zE} (B : zB E) (A : zA E gJ1) : zH E gJ1 (gm_278, 2) gc_278_0 := z_chk B A (zP_cons rfl (zF_cons (zc_237_0 B A) zF_nil) (zP_cons rfl (zF_cons (zc_271a B A.2.1) zF_nil) zP_nil)) (by decide) (by decide +kernel) gk_278_0
theorem gk_5_0 : acck gFL gCL gMT gXT gKI gKL gST (gCA [(60, [gc_60_0]), (81, [gc_81_0, gc_81_1, gc_81_2])]) gJ1 100000 gm_5 (gXT 5) gc_5_0 = true := by decide +kernel
theorem zc_5_0 {E : zE} (B : zB E) (A : zA E gJ1) : zH E gJ1 (gm_5, 5) gc_5_0 := z_chk B A (zP_cons rfl (zF_cons (zc_60_0 B A) zF_nil) (zP_cons rfl (zF_cons (zc_81_0 B A) (zF_cons (zc_81_1 B A) (zF_cons (zc_81_2 B A) zF_nil))) zP_nil)) (by decide) (by decide +kernel) gk_5_0
theorem gk_17_0 : acck gFL gCL gMT gXT gKI gKL gST (gCA [(21, [gc_21_0]), (78, [gc_78_0])]) gJ1 100000 gm_17 (gXT 17) gc_17_0 = true := by decide +kernel
theorem zc_17_0 {E : zE} (B : zB E) (A : zA E gJ1) : zH E gJ1 (gm_17, 6) gc_17_0 := z_chk B A (zP_cons rfl (zF_cons (zc_21_0 B A) zF_nil) (zP_cons rfl (zF_cons (zc_78_0 B A) zF_nil) zP_nil)) (by decide) (by decide +kernel) gk_17_0
theorem gk_53_0 : acck gFL gCL gMT gXT gKI gKL gST (gCA [(60, [gc_60_0])]) gJ1 100000 gm_53 (gXT 53) gc_53_0 = true := by decide +kernel
theorem zc_53_0 {E : zE} (B : zB E) (A : zA E gJ1) : zH E gJ1 (gm_53, 5) gc_53_0 := z_chk B A (zP_cons rfl (zF_cons (zc_60_0 B A) zF_nil) zP_nil) (by decide) (by decide +kernel) gk_53_0
theorem gk_94_0 : acck gFL gCL gMT gXT gKI gKL gST (gCA [(60, [gc_60_0]), (81, [gc_81_0, gc_81_1, gc_81_2])]) gJ1 100000 gm_94 (gXT 94) gc_94_0 = true := by decide +kernel
theorem zc_94_0 {E : zE} (B : zB E) (A : zA E gJ1) : zH E gJ1 (gm_94, 4) gc_94_0 := z_chk B A (zP_cons rfl (zF_cons (zc_60_0 B A) zF_nil) (zP_cons rfl (zF_cons (zc_81_0 B A) (zF_cons (zc_81_1 B A) (zF_cons (zc_81_2 B A) zF_nil))) zP_nil)) (by decide) (by decide +kernel) gk_94_0
theorem gk_95_0 : acck gFL gCL gMT gXT gKI gKL gST (gCA [(60, [gc_60_0]), (81, [gc_81_0, gc_81_1, gc_81_2])]) gJ1 100000 gm_95 (gXT 95) gc_95_0 = true := by decide +kernel
theorem zc_95_0 {E : zE} (B : zB E) (A : zA E gJ1) : zH E gJ1 (gm_95, 5) gc_95_0 := z_chk B A (zP_cons rfl (zF_cons (zc_60_0 B A) zF_nil) (zP_cons rfl (zF_cons (zc_81_0 B A) (zF_cons (zc_81_1 B A) (zF_cons (zc_81_2 B A) zF_nil))) zP_nil)) (by decide) (by decide +kernel) gk_95_0
theorem gk_96_0 : acck gFL gCL gMT gXT gKI gKL gST (gCA [(60, [gc_60_0]), (81, [gc_81_0, gc_81_1, gc_81_2])]) gJ1 100000 gm_96 (gXT 96) gc_96_0 = true := by decide +kernel
theorem zc_96_0 {E : zE} (B : zB E) (A : zA E gJ1) : zH E gJ1 (gm_96, 4) gc_96_0 := z_chk B A (zP_cons rfl (zF_cons (zc_60_0 B A) zF_nil) (zP_cons rfl (zF_cons (zc_81_0 B A) (zF_cons (zc_81_1 B A) (zF_cons (zc_81_2 B A) zF_nil))) zP_nil)) (by decide) (by decide +kernel) gk_96_0
theorem gk_97_0 : acck gFL gCL gMT gXT gKI gKL gST (gCA [(60, [gc_60_0]), (81, [gc_81_0, gc_81_1, gc_81_2])]) gJ1 100000 gm_97 (gXT 97) gc_97_0 = true := by decide +kernel
theorem zc_97_0 {E : zE} (B : zB E) (A : zA E gJ1) : zH E gJ1 (gm_97, 5) gc_97_0 := z_chk B A (zP_cons rfl (zF_cons (zc_60_0 B A) zF_nil) (zP_cons rfl (zF_cons (zc_81_0 B A) (zF_cons (zc_81_1 B A) (zF_cons (zc_81_2 B A) zF_nil))) zP_nil)) (by decide) (by decide +kernel) gk_97_0
theorem gk_99_0 : acck gFL gCL gMT gXT gKI gKL gST (gCA [(60, [gc_60_0]), (78, [gc_78_0]), (81, [gc_81_0, gc_81_1, gc_81_2]), (84, [gc_84_0])]) gJ1 100000 gm_99 (gXT 99) gc_99_0 = true := by decide +kernel
theorem zc_99_0 {E : zE} (B : zB E) (A : zA E gJ1) : zH E gJ1 (gm_99, 5) gc_99_0 := z_chk B A (zP_cons rfl (zF_cons (zc_60_0 B A) zF_nil) (zP_cons rfl (zF_cons (zc_78_0 B A) zF_nil) (zP_cons rfl (zF_cons (zc_81_0 B A) (zF_cons (zc_81_1 B A) (zF_cons (zc_81_2 B A) zF_nil))) (zP_cons rfl (zF_cons (zc_84_0 B A) zF_nil) zP_nil)))) (by decide) (by decide +kernel) gk_99_0
theorem gk_100_0 : acck gFL gCL gMT gXT gKI gKL gST (gCA [(60, [gc_60_0]), (81, [gc_81_0, gc_81_1, gc_81_2])]) gJ1 100000 gm_100 (gXT 100) gc_100_0 = true := by decide +kernel
theorem zc_100_0 {E : zE} (B : zB E) (A : zA E gJ1) : zH E gJ1 (gm_100, 4) gc_100_0 := z_chk B A (zP_cons rfl (zF_cons (zc_60_0 B A) zF_nil) (zP_cons rfl (zF_cons (zc_81_0 B A) (zF_cons (zc_81_1 B A) (zF_cons (zc_81_2 B A) zF_nil))) zP_nil)) (by decide) (by decide +kernel) gk_100_0
theorem gk_113_0 : acck gFL gCL gMT gXT gKI gKL gST (gCA [(103, [gc_103_0])]) gJ1 100000 gm_113 (gXT 113) gc_113_0 = true := by decide +kernel
theorem zc_113_0 {E : zE} (B : zB E) (A : zA E gJ1) : zH E gJ1 (gm_113, 3) gc_113_0 := z_chk B A (zP_cons rfl (zF_cons (zc_103_0 B A) zF_nil) zP_nil) (by decide) (by decide +kernel) gk_113_0
theorem gk_118_0 : acck gFL gCL gMT gXT gKI gKL gST (gCA [(11, [gc_11_0]), (21, [gc_21_0])]) gJ1 100000 gm_118 (gXT 118) gc_118_0 = true := by decide +kernel
theorem zc_118_0 {E : zE} (B : zB E) (A : zA E gJ1) : zH E gJ1 (gm_118, 2) gc_118_0 := z_chk B A (zP_cons rfl (zF_cons (zc_11_0 B A) zF_nil) (zP_cons rfl (zF_cons (zc_21_0 B A) zF_nil) zP_nil)) (by decide) (by decide +kernel) gk_118_0
theorem gk_120_0 : acck gFL gCL gMT gXT gKI gKL gST (gCA [(158, [gc_158_0])]) gJ1 100000 gm_120 (gXT 120) gc_120_0 = true := by decide +kernel
theorem zc_120_0 {E : zE} (B : zB E) (A : zA E gJ1) : zH E gJ1 (gm_120, 4) gc_120_0 := z_chk B A (zP_cons rfl (zF_cons (zc_158_0 B A) zF_nil) zP_nil) (by decide) (by decide +kernel) gk_120_0
theorem gk_126_0 : acck gFL gCL gMT gXT gKI gKL gST (gCA [(42, [gc_42_0])]) gJ1 100000 gm_126 (gXT 126) gc_126_0 = true := by decide +kernel
theorem zc_126_0 {E : zE} (B : zB E) (A : zA E gJ1) : zH E gJ1 (gm_126, 2) gc_126_0 := z_chk B A (zP_cons rfl (zF_cons (zc_42_0 B A) zF_nil) zP_nil) (by decide) (by decide +kernel) gk_126_0
