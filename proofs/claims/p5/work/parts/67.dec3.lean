theorem gd_134 : ∀ t ∈ ga_134, decode cX11_hostsIn t.1 = .ok (t.2.1, t.2.2) := by decide +kernel
theorem ge_134 : ga_134.all (fun t => (est t.1 t.2.1 4 && elen t.2.1 t.2.2) && estL t.2.1 4) = true := by decide +kernel
theorem gd_135 : ∀ t ∈ ga_135, decode cX11_image t.1 = .ok (t.2.1, t.2.2) := by decide +kernel
theorem ge_135 : ga_135.all (fun t => (est t.1 t.2.1 2 && elen t.2.1 t.2.2) && estL t.2.1 2) = true := by decide +kernel
theorem gd_136 : ∀ t ∈ ga_136, decode cX11_isBelow t.1 = .ok (t.2.1, t.2.2) := by decide +kernel
theorem ge_136 : ga_136.all (fun t => (est t.1 t.2.1 2 && elen t.2.1 t.2.2) && estL t.2.1 2) = true := by decide +kernel
theorem gd_137 : ∀ t ∈ ga_137, decode cX11_isLetByAll t.1 = .ok (t.2.1, t.2.2) := by decide +kernel
theorem ge_137 : ga_137.all (fun t => (est t.1 t.2.1 4 && elen t.2.1 t.2.2) && estL t.2.1 4) = true := by decide +kernel
theorem gd_138 : ∀ t ∈ ga_138, decode cX11_isMixed t.1 = .ok (t.2.1, t.2.2) := by decide +kernel
theorem ge_138 : ga_138.all (fun t => (est t.1 t.2.1 4 && elen t.2.1 t.2.2) && estL t.2.1 4) = true := by decide +kernel
theorem gd_139 : ∀ t ∈ ga_139, decode cX11_isOwner t.1 = .ok (t.2.1, t.2.2) := by decide +kernel
theorem ge_139 : ga_139.all (fun t => (est t.1 t.2.1 2 && elen t.2.1 t.2.2) && estL t.2.1 2) = true := by decide +kernel
theorem gd_140 : ∀ t ∈ ga_140, decode cX11_isPassage t.1 = .ok (t.2.1, t.2.2) := by decide +kernel
theorem ge_140 : ga_140.all (fun t => (est t.1 t.2.1 2 && elen t.2.1 t.2.2) && estL t.2.1 2) = true := by decide +kernel
theorem gd_141 : ∀ t ∈ ga_141, decode cX11_isRoom t.1 = .ok (t.2.1, t.2.2) := by decide +kernel
theorem ge_141 : ga_141.all (fun t => (est t.1 t.2.1 2 && elen t.2.1 t.2.2) && estL t.2.1 2) = true := by decide +kernel
theorem gd_142 : ∀ t ∈ ga_142, decode cX11_isRowOfRooms t.1 = .ok (t.2.1, t.2.2) := by decide +kernel
theorem ge_142 : ga_142.all (fun t => (est t.1 t.2.1 3 && elen t.2.1 t.2.2) && estL t.2.1 3) = true := by decide +kernel
theorem gd_143 : ∀ t ∈ ga_143, decode cX11_isSwitch t.1 = .ok (t.2.1, t.2.2) := by decide +kernel
theorem ge_143 : ga_143.all (fun t => (est t.1 t.2.1 1 && elen t.2.1 t.2.2) && estL t.2.1 1) = true := by decide +kernel
theorem gd_144 : ∀ t ∈ ga_144, decode cX11_keptIfDone t.1 = .ok (t.2.1, t.2.2) := by decide +kernel
theorem ge_144 : ga_144.all (fun t => (est t.1 t.2.1 2 && elen t.2.1 t.2.2) && estL t.2.1 2) = true := by decide +kernel
theorem gd_145 : ∀ t ∈ ga_145, decode cX11_leave t.1 = .ok (t.2.1, t.2.2) := by decide +kernel
theorem ge_145 : ga_145.all (fun t => (est t.1 t.2.1 2 && elen t.2.1 t.2.2) && estL t.2.1 2) = true := by decide +kernel
theorem gd_146 : ∀ t ∈ ga_146, decode cX11_let t.1 = .ok (t.2.1, t.2.2) := by decide +kernel
theorem ge_146 : ga_146.all (fun t => (est t.1 t.2.1 4 && elen t.2.1 t.2.2) && estL t.2.1 4) = true := by decide +kernel
theorem gd_147 : ∀ t ∈ ga_147, decode cX11_minutes t.1 = .ok (t.2.1, t.2.2) := by decide +kernel
theorem ge_147 : ga_147.all (fun t => (est t.1 t.2.1 3 && elen t.2.1 t.2.2) && estL t.2.1 3) = true := by decide +kernel
theorem gd_148 : ∀ t ∈ ga_148, decode cX11_mixed t.1 = .ok (t.2.1, t.2.2) := by decide +kernel
theorem ge_148 : ga_148.all (fun t => (est t.1 t.2.1 3 && elen t.2.1 t.2.2) && estL t.2.1 3) = true := by decide +kernel
theorem gd_149 : ∀ t ∈ ga_149, decode cX11_now t.1 = .ok (t.2.1, t.2.2) := by decide +kernel
theorem ge_149 : ga_149.all (fun t => (est t.1 t.2.1 2 && elen t.2.1 t.2.2) && estL t.2.1 2) = true := by decide +kernel
theorem gd_150 : ∀ t ∈ ga_150, decode cX11_odds t.1 = .ok (t.2.1, t.2.2) := by decide +kernel
theorem ge_150 : ga_150.all (fun t => (est t.1 t.2.1 7 && elen t.2.1 t.2.2) && estL t.2.1 7) = true := by decide +kernel
theorem gd_151 : ∀ t ∈ ga_151, decode cX11_owner t.1 = .ok (t.2.1, t.2.2) := by decide +kernel
theorem ge_151 : ga_151.all (fun t => (est t.1 t.2.1 3 && elen t.2.1 t.2.2) && estL t.2.1 3) = true := by decide +kernel
theorem gd_152 : ∀ t ∈ ga_152, decode cX11_passage t.1 = .ok (t.2.1, t.2.2) := by decide +kernel
theorem ge_152 : ga_152.all (fun t => (est t.1 t.2.1 3 && elen t.2.1 t.2.2) && estL t.2.1 3) = true := by decide +kernel
theorem gd_153 : ∀ t ∈ ga_153, decode cX11_price t.1 = .ok (t.2.1, t.2.2) := by decide +kernel
theorem ge_153 : ga_153.all (fun t => (est t.1 t.2.1 2 && elen t.2.1 t.2.2) && estL t.2.1 2) = true := by decide +kernel
theorem gd_154 : ∀ t ∈ ga_154, decode cX11_prices t.1 = .ok (t.2.1, t.2.2) := by decide +kernel
theorem ge_154 : ga_154.all (fun t => (est t.1 t.2.1 1 && elen t.2.1 t.2.2) && estL t.2.1 1) = true := by decide +kernel
theorem gd_155 : ∀ t ∈ ga_155, decode cX11_restore t.1 = .ok (t.2.1, t.2.2) := by decide +kernel
theorem ge_155 : ga_155.all (fun t => (est t.1 t.2.1 2 && elen t.2.1 t.2.2) && estL t.2.1 2) = true := by decide +kernel
theorem gd_156 : ∀ t ∈ ga_156, decode cX11_rings t.1 = .ok (t.2.1, t.2.2) := by decide +kernel
theorem ge_156 : ga_156.all (fun t => (est t.1 t.2.1 1 && elen t.2.1 t.2.2) && estL t.2.1 1) = true := by decide +kernel
theorem gd_157 : ∀ t ∈ ga_157, decode cX11_room t.1 = .ok (t.2.1, t.2.2) := by decide +kernel
theorem ge_157 : ga_157.all (fun t => (est t.1 t.2.1 3 && elen t.2.1 t.2.2) && estL t.2.1 3) = true := by decide +kernel
theorem gd_158 : ∀ t ∈ ga_158, decode cX11_roomsAfterDeaths t.1 = .ok (t.2.1, t.2.2) := by decide +kernel
theorem ge_158 : ga_158.all (fun t => (est t.1 t.2.1 5 && elen t.2.1 t.2.2) && estL t.2.1 5) = true := by decide +kernel
theorem gd_159 : ∀ t ∈ ga_159, decode cX11_said t.1 = .ok (t.2.1, t.2.2) := by decide +kernel
theorem ge_159 : ga_159.all (fun t => (est t.1 t.2.1 5 && elen t.2.1 t.2.2) && estL t.2.1 5) = true := by decide +kernel
theorem gd_160 : ∀ t ∈ ga_160, decode cX11_sell t.1 = .ok (t.2.1, t.2.2) := by decide +kernel
theorem ge_160 : ga_160.all (fun t => (est t.1 t.2.1 4 && elen t.2.1 t.2.2) && estL t.2.1 4) = true := by decide +kernel
theorem gd_161 : ∀ t ∈ ga_161, decode cX11_sentence t.1 = .ok (t.2.1, t.2.2) := by decide +kernel
theorem ge_161 : ga_161.all (fun t => (est t.1 t.2.1 2 && elen t.2.1 t.2.2) && estL t.2.1 2) = true := by decide +kernel
theorem gd_162 : ∀ t ∈ ga_162, decode cX11_shut t.1 = .ok (t.2.1, t.2.2) := by decide +kernel
theorem ge_162 : ga_162.all (fun t => (est t.1 t.2.1 3 && elen t.2.1 t.2.2) && estL t.2.1 3) = true := by decide +kernel
theorem gd_163 : ∀ t ∈ ga_163, decode cX11_spread t.1 = .ok (t.2.1, t.2.2) := by decide +kernel
theorem ge_163 : ga_163.all (fun t => (est t.1 t.2.1 2 && elen t.2.1 t.2.2) && estL t.2.1 2) = true := by decide +kernel
theorem gd_164 : ∀ t ∈ ga_164, decode cX11_step t.1 = .ok (t.2.1, t.2.2) := by decide +kernel
theorem ge_164 : ga_164.all (fun t => (est t.1 t.2.1 2 && elen t.2.1 t.2.2) && estL t.2.1 2) = true := by decide +kernel
theorem gd_165 : ∀ t ∈ ga_165, decode cX11_terrace t.1 = .ok (t.2.1, t.2.2) := by decide +kernel
theorem ge_165 : ga_165.all (fun t => (est t.1 t.2.1 2 && elen t.2.1 t.2.2) && estL t.2.1 2) = true := by decide +kernel
theorem gd_166 : ∀ t ∈ ga_166, decode cX11_through t.1 = .ok (t.2.1, t.2.2) := by decide +kernel
theorem ge_166 : ga_166.all (fun t => (est t.1 t.2.1 4 && elen t.2.1 t.2.2) && estL t.2.1 4) = true := by decide +kernel
theorem gd_167 : ∀ t ∈ ga_167, decode cX11_undo t.1 = .ok (t.2.1, t.2.2) := by decide +kernel
theorem ge_167 : ga_167.all (fun t => (est t.1 t.2.1 1 && elen t.2.1 t.2.2) && estL t.2.1 1) = true := by decide +kernel
theorem gd_168 : ∀ t ∈ ga_168, decode cX11_walked t.1 = .ok (t.2.1, t.2.2) := by decide +kernel
theorem ge_168 : ga_168.all (fun t => (est t.1 t.2.1 2 && elen t.2.1 t.2.2) && estL t.2.1 2) = true := by decide +kernel
theorem gd_169 : ∀ t ∈ ga_169, decode cX11_wants t.1 = .ok (t.2.1, t.2.2) := by decide +kernel
theorem ge_169 : ga_169.all (fun t => (est t.1 t.2.1 2 && elen t.2.1 t.2.2) && estL t.2.1 2) = true := by decide +kernel
theorem gd_170 : ∀ t ∈ ga_170, decode cX11_way t.1 = .ok (t.2.1, t.2.2) := by decide +kernel
theorem ge_170 : ga_170.all (fun t => (est t.1 t.2.1 4 && elen t.2.1 t.2.2) && estL t.2.1 4) = true := by decide +kernel
theorem gd_171 : ∀ t ∈ ga_171, decode cX11_whoCanHaveWalked t.1 = .ok (t.2.1, t.2.2) := by decide +kernel
theorem ge_171 : ga_171.all (fun t => (est t.1 t.2.1 3 && elen t.2.1 t.2.2) && estL t.2.1 3) = true := by decide +kernel
theorem gd_172 : ∀ t ∈ ga_172, decode cX11_will t.1 = .ok (t.2.1, t.2.2) := by decide +kernel
theorem ge_172 : ga_172.all (fun t => (est t.1 t.2.1 3 && elen t.2.1 t.2.2) && estL t.2.1 3) = true := by decide +kernel
theorem gd_173 : ∀ t ∈ ga_173, decode cX12_areMinutes t.1 = .ok (t.2.1, t.2.2) := by decide +kernel
theorem ge_173 : ga_173.all (fun t => (est t.1 t.2.1 2 && elen t.2.1 t.2.2) && estL t.2.1 2) = true := by decide +kernel
theorem gd_174 : ∀ t ∈ ga_174, decode cX12_areTwo t.1 = .ok (t.2.1, t.2.2) := by decide +kernel
theorem ge_174 : ga_174.all (fun t => (est t.1 t.2.1 3 && elen t.2.1 t.2.2) && estL t.2.1 3) = true := by decide +kernel
theorem gd_175 : ∀ t ∈ ga_175, decode cX12_asked t.1 = .ok (t.2.1, t.2.2) := by decide +kernel
theorem ge_175 : ga_175.all (fun t => (est t.1 t.2.1 1 && elen t.2.1 t.2.2) && estL t.2.1 1) = true := by decide +kernel
def ga_176_0 : List eI := [(0, .aload_n 0, 1), (1, .iconst 0, 1), (2, .putfield 1, 3), (5, .aload_n 0, 1), (6, .iload_n 1, 1), (7, .invokevirtual 275, 3), (10, .ifCond .eq 11, 3), (13, .aload_n 0, 1), (14, .iload_n 2, 1), (15, .invokevirtual 278, 3), (18, .ifCond .ne 5, 3), (21, .iconst (-1), 1), (22, .ireturn, 1), (23, .aload_n 0, 1), (24, .invokevirtual 369, 3), (27, .iconst (-1), 1), (28, .istore_n 3, 1), (29, .iconst 0, 1), (30, .istore 4, 2), (32, .iload 4, 2), (34, .iconst 1, 1), (35, .aload_n 0, 1), (36, .getfield 33, 3), (39, .iconst 1, 1), (40, .iaload, 1), (41, .ishl, 1), (42, .if_icmp .ge 181, 3), (45, .iload 4, 2), (47, .iload_n 1, 1), (48, .invokestatic 254, 3), (51, .ifCond .ne 23, 3), (54, .iload_n 3, 1), (55, .ifCond .lt 15, 3), (58, .iload 4, 2), (60, .invokestatic 372, 3), (63, .iload_n 3, 1), (64, .invokestatic 372, 3), (67, .if_icmp .ge 7, 3), (70, .iconst 1, 1), (71, .goto 4, 3), (74, .iconst 0, 1), (75, .istore 5, 2), (77, .iconst 0, 1), (78, .istore 6, 2), (80, .iload 6, 2), (82, .aload_n 0, 1), (83, .getfield 33, 3), (86, .iconst 1, 1), (87, .iaload, 1), (88, .if_icmp .ge 58, 3), (91, .iload 5, 2), (93, .ifCond .eq 53, 3), (96, .iload 4, 2), (98, .iload 6, 2), (100, .invokestatic 254, 3), (103, .ifCond .eq 30, 3), (106, .aload_n 0, 1), (107, .getfield 33, 3), (110, .sipush 203, 3), (113, .iload 6, 2), (115, .iadd, 1), (116, .iaload, 1), (117, .iload_n 1, 1), (118, .invokestatic 254, 3), (121, .ifCond .ne 16, 3), (124, .aload_n 0, 1), (125, .iload 6, 2), (127, .invokevirtual 295, 3), (130, .ifCond .ne 7, 3), (133, .iconst 1, 1), (134, .goto 4, 3), (137, .iconst 0, 1), (138, .istore 5, 2), (140, .iinc 6 1, 3), (143, .goto (-63), 3), (146, .iload 5, 2), (148, .ifCond .ne 6, 3), (151, .goto 66, 3), (154, .iconst 0, 1), (155, .istore 6, 2)]
theorem gd_176_0 : ∀ t ∈ ga_176_0, decode cX12_asks t.1 = .ok (t.2.1, t.2.2) := by decide +kernel
def ga_176_1 : List eI := [(157, .iload 6, 2), (159, .aload_n 0, 1), (160, .getfield 33, 3), (163, .iconst 1, 1), (164, .iaload, 1), (165, .if_icmp .ge 36, 3), (168, .iload 4, 2), (170, .iload 6, 2), (172, .invokestatic 254, 3), (175, .ifCond .eq 20, 3), (178, .aload_n 0, 1), (179, .getfield 33, 3), (182, .sipush 203, 3), (185, .iload 6, 2), (187, .iadd, 1), (188, .dup2, 1), (189, .iaload, 1), (190, .iconst 1, 1), (191, .iload_n 1, 1), (192, .ishl, 1), (193, .ior, 1), (194, .iastore, 1), (195, .iinc 6 1, 3), (198, .goto (-41), 3), (201, .aload_n 0, 1), (202, .iload_n 1, 1), (203, .iload_n 2, 1), (204, .invokevirtual 363, 3), (207, .ifCond .lt 6, 3), (210, .iload 4, 2), (212, .istore_n 3, 1), (213, .aload_n 0, 1), (214, .invokevirtual 375, 3), (217, .iinc 4 1, 3), (220, .goto (-188), 3), (223, .iload_n 3, 1), (224, .ifCond .ge 5, 3), (227, .iconst (-1), 1), (228, .ireturn, 1), (229, .aload_n 0, 1), (230, .iconst 1, 1), (231, .putfield 378, 3), (234, .aload_n 0, 1), (235, .iload_n 3, 1), (236, .putfield 382, 3), (239, .iload_n 3, 1), (240, .invokestatic 372, 3), (243, .ireturn, 1)]
theorem gd_176_1 : ∀ t ∈ ga_176_1, decode cX12_asks t.1 = .ok (t.2.1, t.2.2) := by decide +kernel
set_option maxRecDepth 100000 in
theorem gd_176 : ∀ t ∈ ga_176, decode cX12_asks t.1 = .ok (t.2.1, t.2.2) := (show ∀ t ∈ ga_176_0 ++ (ga_176_1), decode cX12_asks t.1 = .ok (t.2.1, t.2.2) from List.forall_mem_append.mpr ⟨gd_176_0, gd_176_1⟩)
theorem ge_176 : ga_176.all (fun t => (est t.1 t.2.1 7 && elen t.2.1 t.2.2) && estL t.2.1 7) = true := by decide +kernel
theorem gd_177 : ∀ t ∈ ga_177, decode cX12_back t.1 = .ok (t.2.1, t.2.2) := by decide +kernel
theorem ge_177 : ga_177.all (fun t => (est t.1 t.2.1 2 && elen t.2.1 t.2.2) && estL t.2.1 2) = true := by decide +kernel
theorem gd_178 : ∀ t ∈ ga_178, decode cX12_bad t.1 = .ok (t.2.1, t.2.2) := by decide +kernel
theorem ge_178 : ga_178.all (fun t => (est t.1 t.2.1 2 && elen t.2.1 t.2.2) && estL t.2.1 2) = true := by decide +kernel
theorem gd_179 : ∀ t ∈ ga_179, decode cX12_barred t.1 = .ok (t.2.1, t.2.2) := by decide +kernel
theorem ge_179 : ga_179.all (fun t => (est t.1 t.2.1 4 && elen t.2.1 t.2.2) && estL t.2.1 4) = true := by decide +kernel
theorem gd_180 : ∀ t ∈ ga_180, decode cX12_behind t.1 = .ok (t.2.1, t.2.2) := by decide +kernel
theorem ge_180 : ga_180.all (fun t => (est t.1 t.2.1 1 && elen t.2.1 t.2.2) && estL t.2.1 1) = true := by decide +kernel
theorem gd_181 : ∀ t ∈ ga_181, decode cX12_besides t.1 = .ok (t.2.1, t.2.2) := by decide +kernel
theorem ge_181 : ga_181.all (fun t => (est t.1 t.2.1 4 && elen t.2.1 t.2.2) && estL t.2.1 4) = true := by decide +kernel
theorem gd_182 : ∀ t ∈ ga_182, decode cX12_bitOf t.1 = .ok (t.2.1, t.2.2) := by decide +kernel
theorem ge_182 : ga_182.all (fun t => (est t.1 t.2.1 2 && elen t.2.1 t.2.2) && estL t.2.1 2) = true := by decide +kernel
theorem gd_183 : ∀ t ∈ ga_183, decode cX12_bits t.1 = .ok (t.2.1, t.2.2) := by decide +kernel
theorem ge_183 : ga_183.all (fun t => (est t.1 t.2.1 3 && elen t.2.1 t.2.2) && estL t.2.1 3) = true := by decide +kernel
def ga_184_0 : List eI := [(0, .aload_n 0, 1), (1, .iconst 0, 1), (2, .putfield 1, 3), (5, .iload_n 1, 1), (6, .iconst 0, 1), (7, .iconst 1, 1), (8, .invokestatic 216, 3), (11, .ifCond .ne 7, 3), (14, .sipush (-1000), 3), (17, .ireturn, 1), (18, .aload_n 0, 1), (19, .sipush 400, 3), (22, .invokevirtual 260, 3), (25, .aload_n 0, 1), (26, .iconst 0, 1), (27, .putfield 201, 3), (30, .aload_n 0, 1), (31, .iconst 0, 1), (32, .putfield 428, 3), (35, .aload_n 0, 1), (36, .invokevirtual 213, 3), (39, .aload_n 0, 1), (40, .getfield 184, 3), (43, .ifCond .eq 40, 3), (46, .aload_n 0, 1), (47, .invokevirtual 434, 3), (50, .ifCond .eq 12, 3), (53, .aload_n 0, 1), (54, .bipush 59, 2), (56, .invokevirtual 269, 3), (59, .ifCond .ne 11, 3), (62, .bipush (-2), 2), (64, .aload_n 0, 1), (65, .getfield 204, 3), (68, .isub, 1), (69, .ireturn, 1), (70, .aload_n 0, 1), (71, .dup, 1), (72, .getfield 428, 3), (75, .iconst 1, 1), (76, .iadd, 1), (77, .putfield 428, 3), (80, .goto (-41), 3), (83, .aload_n 0, 1), (84, .invokevirtual 369, 3), (87, .iconst 0, 1), (88, .istore_n 2, 1), (89, .iload_n 2, 1), (90, .iconst 4, 1), (91, .if_icmp .ge 16, 3), (94, .aload_n 0, 1), (95, .getfield 95, 3), (98, .iload_n 2, 1), (99, .iconst 0, 1), (100, .iastore, 1), (101, .iinc 2 1, 3), (104, .goto (-15), 3), (107, .aload_n 0, 1), (108, .getfield 33, 3), (111, .sipush 180, 3), (114, .iaload, 1), (115, .istore_n 2, 1), (116, .iconst (-1), 1), (117, .istore_n 3, 1), (118, .iconst 0, 1), (119, .istore 4, 2), (121, .iload 4, 2), (123, .aload_n 0, 1), (124, .getfield 428, 3), (127, .if_icmp .ge 137, 3), (130, .iload_n 3, 1), (131, .ifCond .ge 133, 3), (134, .iconst 4, 1), (135, .iload 4, 2), (137, .imul, 1), (138, .istore 5, 2), (140, .aload_n 0, 1), (141, .aload_n 0, 1), (142, .getfield 40, 3), (145, .iload 5, 2)]
theorem gd_184_0 : ∀ t ∈ ga_184_0, decode cX12_book t.1 = .ok (t.2.1, t.2.2) := by decide +kernel
def ga_184_1 : List eI := [(147, .iaload, 1), (148, .aload_n 0, 1), (149, .getfield 40, 3), (152, .iload 5, 2), (154, .iconst 1, 1), (155, .iadd, 1), (156, .iaload, 1), (157, .aload_n 0, 1), (158, .getfield 40, 3), (161, .iload 5, 2), (163, .iconst 2, 1), (164, .iadd, 1), (165, .iaload, 1), (166, .aload_n 0, 1), (167, .getfield 40, 3), (170, .iload 5, 2), (172, .iconst 3, 1), (173, .iadd, 1), (174, .iaload, 1), (175, .invokevirtual 437, 3), (178, .istore 6, 2), (180, .iload 6, 2), (182, .ifCond .le 28, 3), (185, .aload_n 0, 1), (186, .getfield 95, 3), (189, .iconst 0, 1), (190, .bipush 10, 2), (192, .aload_n 0, 1), (193, .getfield 40, 3), (196, .iload 5, 2), (198, .iaload, 1), (199, .imul, 1), (200, .iload 6, 2), (202, .iadd, 1), (203, .iastore, 1), (204, .iload 4, 2), (206, .istore_n 3, 1), (207, .goto 51, 3), (210, .aload_n 0, 1), (211, .aload_n 0, 1), (212, .getfield 40, 3), (215, .iload 5, 2), (217, .iaload, 1), (218, .aload_n 0, 1), (219, .getfield 40, 3), (222, .iload 5, 2), (224, .iconst 1, 1), (225, .iadd, 1), (226, .iaload, 1), (227, .aload_n 0, 1), (228, .getfield 40, 3), (231, .iload 5, 2), (233, .iconst 2, 1), (234, .iadd, 1), (235, .iaload, 1), (236, .aload_n 0, 1), (237, .getfield 40, 3), (240, .iload 5, 2), (242, .iconst 3, 1), (243, .iadd, 1), (244, .iaload, 1), (245, .invokevirtual 441, 3), (248, .aload_n 0, 1), (249, .getfield 95, 3), (252, .iconst 1, 1), (253, .dup2, 1), (254, .iaload, 1), (255, .iconst 1, 1), (256, .iadd, 1), (257, .iastore, 1), (258, .iinc 4 1, 3), (261, .goto (-140), 3), (264, .aload_n 0, 1), (265, .getfield 95, 3), (268, .iconst 2, 1), (269, .aload_n 0, 1), (270, .getfield 33, 3), (273, .sipush 179, 3), (276, .iaload, 1), (277, .iastore, 1)]
theorem gd_184_1 : ∀ t ∈ ga_184_1, decode cX12_book t.1 = .ok (t.2.1, t.2.2) := by decide +kernel
def ga_184_2 : List eI := [(278, .aload_n 0, 1), (279, .getfield 95, 3), (282, .iconst 3, 1), (283, .aload_n 0, 1), (284, .getfield 33, 3), (287, .sipush 180, 3), (290, .iaload, 1), (291, .iload_n 2, 1), (292, .iconst (-1), 1), (293, .ixor, 1), (294, .iand, 1), (295, .iastore, 1), (296, .aload_n 0, 1), (297, .iconst 1, 1), (298, .putfield 445, 3), (301, .iload_n 1, 1), (302, .iconst 1, 1), (303, .if_icmp .ne 56, 3), (306, .aload_n 0, 1), (307, .getfield 95, 3), (310, .iconst 1, 1), (311, .iaload, 1), (312, .ifCond .le 47, 3), (315, .aload_n 0, 1), (316, .invokevirtual 325, 3), (319, .iconst 0, 1), (320, .istore 4, 2), (322, .iload 4, 2), (324, .bipush 42, 2), (326, .if_icmp .ge 33, 3), (329, .aload_n 0, 1), (330, .getfield 50, 3), (333, .bipush 42, 2), (335, .aload_n 0, 1), (336, .getfield 272, 3), (339, .iconst 1, 1), (340, .isub, 1), (341, .imul, 1), (342, .iload 4, 2), (344, .iadd, 1), (345, .aload_n 0, 1), (346, .getfield 53, 3), (349, .iload 4, 2), (351, .iaload, 1), (352, .iastore, 1), (353, .iinc 4 1, 3), (356, .goto (-34), 3), (359, .iload_n 1, 1), (360, .ifCond .ne 7, 3), (363, .aload_n 0, 1), (364, .invokevirtual 375, 3), (367, .iload_n 3, 1), (368, .ireturn, 1)]
theorem gd_184_2 : ∀ t ∈ ga_184_2, decode cX12_book t.1 = .ok (t.2.1, t.2.2) := by decide +kernel
set_option maxRecDepth 100000 in
theorem gd_184 : ∀ t ∈ ga_184, decode cX12_book t.1 = .ok (t.2.1, t.2.2) := (show ∀ t ∈ ga_184_0 ++ (ga_184_1 ++ (ga_184_2)), decode cX12_book t.1 = .ok (t.2.1, t.2.2) from List.forall_mem_append.mpr ⟨gd_184_0, List.forall_mem_append.mpr ⟨gd_184_1, gd_184_2⟩⟩)
theorem ge_184 : ga_184.all (fun t => (est t.1 t.2.1 7 && elen t.2.1 t.2.2) && estL t.2.1 7) = true := by decide +kernel
