def ga_0_0 : List eI := [(0, .aload_n 0, 1), (1, .getfield 15, 3), (4, .iload_n 3, 1), (5, .iaload, 1), (6, .istore 4, 2), (8, .aload_n 0, 1), (9, .getfield 18, 3), (12, .iload_n 3, 1), (13, .iaload, 1), (14, .istore 5, 2), (16, .iload 4, 2), (18, .iload 5, 2), (20, .if_icmp .ne 7, 3), (23, .iconst 1, 1), (24, .goto 4, 3), (27, .iconst 0, 1), (28, .istore 6, 2), (30, .aload_n 0, 1), (31, .getfield 9, 3), (34, .iload_n 3, 1), (35, .iaload, 1), (36, .tableswitch 252 9 17 #[52, 62, 98, 123, 172, 148, 184, 212, 240], 52), (88, .aload_n 2, 1), (89, .aload_n 1, 1), (90, .iload 4, 2), (92, .iload 5, 2), (94, .invokevirtual 107, 3), (97, .ireturn, 1), (98, .iload 4, 2), (100, .aload_n 0, 1), (101, .getfield 21, 3), (104, .iload_n 3, 1), (105, .iaload, 1), (106, .if_icmp .ne 8, 3), (109, .bipush 19, 2), (111, .goto 22, 3), (114, .bipush 10, 2), (116, .aload_n 2, 1), (117, .iload 4, 2), (119, .iload 5, 2), (121, .aload_n 0, 1), (122, .getfield 21, 3), (125, .iload_n 3, 1), (126, .iaload, 1), (127, .invokevirtual 111, 3), (130, .invokestatic 115, 3), (133, .ireturn, 1), (134, .iload 6, 2), (136, .ifCond .eq 8, 3), (139, .bipush 29, 2), (141, .goto 17, 3), (144, .bipush 20, 2), (146, .aload_n 2, 1), (147, .iload 4, 2), (149, .iload 5, 2), (151, .iconst 1, 1), (152, .invokevirtual 118, 3), (155, .invokestatic 115, 3), (158, .ireturn, 1), (159, .iload 6, 2), (161, .ifCond .eq 8, 3), (164, .bipush 39, 2), (166, .goto 17, 3), (169, .bipush 30, 2), (171, .aload_n 2, 1), (172, .iload 4, 2), (174, .iload 5, 2), (176, .iconst 0, 1), (177, .invokevirtual 118, 3), (180, .invokestatic 115, 3), (183, .ireturn, 1), (184, .iload 6, 2), (186, .ifCond .eq 8, 3), (189, .bipush 49, 2), (191, .goto 16, 3), (194, .bipush 40, 2), (196, .aload_n 2, 1), (197, .iload 4, 2), (199, .iload 5, 2), (201, .invokevirtual 121, 3)]
theorem gd_0_0 : ∀ t ∈ ga_0_0, decode cX0_doneOrWhy t.1 = .ok (t.2.1, t.2.2) := by decide +kernel
def ga_0_1 : List eI := [(204, .invokestatic 115, 3), (207, .ireturn, 1), (208, .bipush 50, 2), (210, .aload_n 2, 1), (211, .iload 4, 2), (213, .invokevirtual 124, 3), (216, .invokestatic 115, 3), (219, .ireturn, 1), (220, .iload 5, 2), (222, .aload_n 1, 1), (223, .getfield 128, 3), (226, .if_icmp .lt 8, 3), (229, .bipush 69, 2), (231, .goto 16, 3), (234, .bipush 60, 2), (236, .aload_n 2, 1), (237, .aload_n 1, 1), (238, .iload 5, 2), (240, .iconst 1, 1), (241, .invokevirtual 133, 3), (244, .invokestatic 115, 3), (247, .ireturn, 1), (248, .iload 5, 2), (250, .aload_n 1, 1), (251, .getfield 128, 3), (254, .if_icmp .lt 8, 3), (257, .bipush 79, 2), (259, .goto 16, 3), (262, .bipush 70, 2), (264, .aload_n 2, 1), (265, .aload_n 1, 1), (266, .iload 5, 2), (268, .iconst 0, 1), (269, .invokevirtual 133, 3), (272, .invokestatic 115, 3), (275, .ireturn, 1), (276, .bipush 80, 2), (278, .aload_n 2, 1), (279, .iload 5, 2), (281, .invokevirtual 136, 3), (284, .invokestatic 115, 3), (287, .ireturn, 1), (288, .bipush 90, 2), (290, .aload_n 2, 1), (291, .aload_n 1, 1), (292, .iload 5, 2), (294, .invokevirtual 139, 3), (297, .invokestatic 115, 3), (300, .ireturn, 1)]
theorem gd_0_1 : ∀ t ∈ ga_0_1, decode cX0_doneOrWhy t.1 = .ok (t.2.1, t.2.2) := by decide +kernel
set_option maxRecDepth 100000 in
theorem gd_0 : ∀ t ∈ ga_0, decode cX0_doneOrWhy t.1 = .ok (t.2.1, t.2.2) := (show ∀ t ∈ ga_0_0 ++ (ga_0_1), decode cX0_doneOrWhy t.1 = .ok (t.2.1, t.2.2) from List.forall_mem_append.mpr ⟨gd_0_0, gd_0_1⟩)
theorem ge_0 : ga_0.all (fun t => (est t.1 t.2.1 7 && elen t.2.1 t.2.2) && estL t.2.1 7) = true := by decide +kernel
theorem gd_1 : ∀ t ∈ ga_1, decode cX0_live t.1 = .ok (t.2.1, t.2.2) := by decide +kernel
theorem ge_1 : ga_1.all (fun t => (est t.1 t.2.1 5 && elen t.2.1 t.2.2) && estL t.2.1 5) = true := by decide +kernel
theorem gd_2 : ∀ t ∈ ga_2, decode cX0_opensLine t.1 = .ok (t.2.1, t.2.2) := by decide +kernel
theorem ge_2 : ga_2.all (fun t => (est t.1 t.2.1 1 && elen t.2.1 t.2.2) && estL t.2.1 1) = true := by decide +kernel
theorem gd_3 : ∀ t ∈ ga_3, decode cX0_readDeed t.1 = .ok (t.2.1, t.2.2) := by decide +kernel
theorem ge_3 : ga_3.all (fun t => (est t.1 t.2.1 3 && elen t.2.1 t.2.2) && estL t.2.1 3) = true := by decide +kernel
theorem gd_4 : ∀ t ∈ ga_4, decode cX0_readEvent t.1 = .ok (t.2.1, t.2.2) := by decide +kernel
theorem ge_4 : ga_4.all (fun t => (est t.1 t.2.1 4 && elen t.2.1 t.2.2) && estL t.2.1 4) = true := by decide +kernel
theorem gd_5 : ∀ t ∈ ga_5, decode cX0_readLine t.1 = .ok (t.2.1, t.2.2) := by decide +kernel
theorem ge_5 : ga_5.all (fun t => (est t.1 t.2.1 5 && elen t.2.1 t.2.2) && estL t.2.1 5) = true := by decide +kernel
theorem gd_6 : ∀ t ∈ ga_6, decode cX0_readText t.1 = .ok (t.2.1, t.2.2) := by decide +kernel
theorem ge_6 : ga_6.all (fun t => (est t.1 t.2.1 4 && elen t.2.1 t.2.2) && estL t.2.1 4) = true := by decide +kernel
theorem gd_7 : ∀ t ∈ ga_7, decode cX0_takeBuyer t.1 = .ok (t.2.1, t.2.2) := by decide +kernel
theorem ge_7 : ga_7.all (fun t => (est t.1 t.2.1 3 && elen t.2.1 t.2.2) && estL t.2.1 3) = true := by decide +kernel
theorem gd_8 : ∀ t ∈ ga_8, decode cX0_takeObject t.1 = .ok (t.2.1, t.2.2) := by decide +kernel
theorem ge_8 : ga_8.all (fun t => (est t.1 t.2.1 3 && elen t.2.1 t.2.2) && estL t.2.1 3) = true := by decide +kernel
theorem gd_9 : ∀ t ∈ ga_9, decode cX0_whyBy t.1 = .ok (t.2.1, t.2.2) := by decide +kernel
theorem ge_9 : ga_9.all (fun t => (est t.1 t.2.1 2 && elen t.2.1 t.2.2) && estL t.2.1 2) = true := by decide +kernel
theorem gd_10 : ∀ t ∈ ga_10, decode cX1_allGoings t.1 = .ok (t.2.1, t.2.2) := by decide +kernel
theorem ge_10 : ga_10.all (fun t => (est t.1 t.2.1 3 && elen t.2.1 t.2.2) && estL t.2.1 3) = true := by decide +kernel
theorem gd_11 : ∀ t ∈ ga_11, decode cX1_copyFrom t.1 = .ok (t.2.1, t.2.2) := by decide +kernel
theorem ge_11 : ga_11.all (fun t => (est t.1 t.2.1 2 && elen t.2.1 t.2.2) && estL t.2.1 2) = true := by decide +kernel
theorem gd_12 : ∀ t ∈ ga_12, decode cX1_endLife t.1 = .ok (t.2.1, t.2.2) := by decide +kernel
theorem ge_12 : ga_12.all (fun t => (est t.1 t.2.1 4 && elen t.2.1 t.2.2) && estL t.2.1 4) = true := by decide +kernel
theorem gd_13 : ∀ t ∈ ga_13, decode cX1_forget t.1 = .ok (t.2.1, t.2.2) := by decide +kernel
theorem ge_13 : ga_13.all (fun t => (est t.1 t.2.1 1 && elen t.2.1 t.2.2) && estL t.2.1 1) = true := by decide +kernel
theorem gd_14 : ∀ t ∈ ga_14, decode cX1_goTo t.1 = .ok (t.2.1, t.2.2) := by decide +kernel
theorem ge_14 : ga_14.all (fun t => (est t.1 t.2.1 5 && elen t.2.1 t.2.2) && estL t.2.1 5) = true := by decide +kernel
theorem gd_15 : ∀ t ∈ ga_15, decode cX1_hasLeave t.1 = .ok (t.2.1, t.2.2) := by decide +kernel
theorem ge_15 : ga_15.all (fun t => (est t.1 t.2.1 4 && elen t.2.1 t.2.2) && estL t.2.1 4) = true := by decide +kernel
theorem gd_16 : ∀ t ∈ ga_16, decode cX1_lives t.1 = .ok (t.2.1, t.2.2) := by decide +kernel
theorem ge_16 : ga_16.all (fun t => (est t.1 t.2.1 2 && elen t.2.1 t.2.2) && estL t.2.1 2) = true := by decide +kernel
theorem gd_17 : ∀ t ∈ ga_17, decode cX1_passMinutes t.1 = .ok (t.2.1, t.2.2) := by decide +kernel
theorem ge_17 : ga_17.all (fun t => (est t.1 t.2.1 6 && elen t.2.1 t.2.2) && estL t.2.1 6) = true := by decide +kernel
theorem gd_18 : ∀ t ∈ ga_18, decode cX1_peopleIn t.1 = .ok (t.2.1, t.2.2) := by decide +kernel
theorem ge_18 : ga_18.all (fun t => (est t.1 t.2.1 4 && elen t.2.1 t.2.2) && estL t.2.1 4) = true := by decide +kernel
theorem gd_19 : ∀ t ∈ ga_19, decode cX1_roomsOf t.1 = .ok (t.2.1, t.2.2) := by decide +kernel
theorem ge_19 : ga_19.all (fun t => (est t.1 t.2.1 4 && elen t.2.1 t.2.2) && estL t.2.1 4) = true := by decide +kernel
theorem gd_20 : ∀ t ∈ ga_20, decode cX1_sellTo t.1 = .ok (t.2.1, t.2.2) := by decide +kernel
theorem ge_20 : ga_20.all (fun t => (est t.1 t.2.1 4 && elen t.2.1 t.2.2) && estL t.2.1 4) = true := by decide +kernel
theorem gd_21 : ∀ t ∈ ga_21, decode cX1_setFire t.1 = .ok (t.2.1, t.2.2) := by decide +kernel
theorem ge_21 : ga_21.all (fun t => (est t.1 t.2.1 3 && elen t.2.1 t.2.2) && estL t.2.1 3) = true := by decide +kernel
theorem gd_22 : ∀ t ∈ ga_22, decode cX1_setLeave t.1 = .ok (t.2.1, t.2.2) := by decide +kernel
theorem ge_22 : ga_22.all (fun t => (est t.1 t.2.1 4 && elen t.2.1 t.2.2) && estL t.2.1 4) = true := by decide +kernel
theorem gd_23 : ∀ t ∈ ga_23, decode cX1_setShut t.1 = .ok (t.2.1, t.2.2) := by decide +kernel
theorem ge_23 : ga_23.all (fun t => (est t.1 t.2.1 4 && elen t.2.1 t.2.2) && estL t.2.1 4) = true := by decide +kernel
theorem gd_24 : ∀ t ∈ ga_24, decode cX1_successorOf t.1 = .ok (t.2.1, t.2.2) := by decide +kernel
theorem ge_24 : ga_24.all (fun t => (est t.1 t.2.1 4 && elen t.2.1 t.2.2) && estL t.2.1 4) = true := by decide +kernel
theorem gd_25 : ∀ t ∈ ga_25, decode cX1_willTo t.1 = .ok (t.2.1, t.2.2) := by decide +kernel
theorem ge_25 : ga_25.all (fun t => (est t.1 t.2.1 3 && elen t.2.1 t.2.2) && estL t.2.1 3) = true := by decide +kernel
theorem gd_26 : ∀ t ∈ ga_26, decode cX2_doDrawn t.1 = .ok (t.2.1, t.2.2) := by decide +kernel
theorem ge_26 : ga_26.all (fun t => (est t.1 t.2.1 9 && elen t.2.1 t.2.2) && estL t.2.1 9) = true := by decide +kernel
theorem gd_27 : ∀ t ∈ ga_27, decode cX2_draw t.1 = .ok (t.2.1, t.2.2) := by decide +kernel
theorem ge_27 : ga_27.all (fun t => (est t.1 t.2.1 2 && elen t.2.1 t.2.2) && estL t.2.1 2) = true := by decide +kernel
theorem gd_28 : ∀ t ∈ ga_28, decode cX2_liveMinutes t.1 = .ok (t.2.1, t.2.2) := by decide +kernel
theorem ge_28 : ga_28.all (fun t => (est t.1 t.2.1 8 && elen t.2.1 t.2.2) && estL t.2.1 8) = true := by decide +kernel
theorem gd_29 : ∀ t ∈ ga_29, decode cX3_burntIn t.1 = .ok (t.2.1, t.2.2) := by decide +kernel
theorem ge_29 : ga_29.all (fun t => (est t.1 t.2.1 6 && elen t.2.1 t.2.2) && estL t.2.1 6) = true := by decide +kernel
theorem gd_30 : ∀ t ∈ ga_30, decode cX3_fewestDoors t.1 = .ok (t.2.1, t.2.2) := by decide +kernel
theorem ge_30 : ga_30.all (fun t => (est t.1 t.2.1 5 && elen t.2.1 t.2.2) && estL t.2.1 5) = true := by decide +kernel
theorem gd_31 : ∀ t ∈ ga_31, decode cX3_findsWay t.1 = .ok (t.2.1, t.2.2) := by decide +kernel
theorem ge_31 : ga_31.all (fun t => (est t.1 t.2.1 12 && elen t.2.1 t.2.2) && estL t.2.1 12) = true := by decide +kernel
theorem gd_32 : ∀ t ∈ ga_32, decode cX3_minutesTill t.1 = .ok (t.2.1, t.2.2) := by decide +kernel
theorem ge_32 : ga_32.all (fun t => (est t.1 t.2.1 6 && elen t.2.1 t.2.2) && estL t.2.1 6) = true := by decide +kernel
theorem gd_33 : ∀ t ∈ ga_33, decode cX3_takeWay t.1 = .ok (t.2.1, t.2.2) := by decide +kernel
theorem ge_33 : ga_33.all (fun t => (est t.1 t.2.1 8 && elen t.2.1 t.2.2) && estL t.2.1 8) = true := by decide +kernel
theorem gd_34 : ∀ t ∈ ga_34, decode cX4_bestBuy t.1 = .ok (t.2.1, t.2.2) := by decide +kernel
theorem ge_34 : ga_34.all (fun t => (est t.1 t.2.1 8 && elen t.2.1 t.2.2) && estL t.2.1 8) = true := by decide +kernel
theorem gd_35 : ∀ t ∈ ga_35, decode cX4_choose t.1 = .ok (t.2.1, t.2.2) := by decide +kernel
theorem ge_35 : ga_35.all (fun t => (est t.1 t.2.1 4 && elen t.2.1 t.2.2) && estL t.2.1 4) = true := by decide +kernel
theorem gd_36 : ∀ t ∈ ga_36, decode cX4_closeRings t.1 = .ok (t.2.1, t.2.2) := by decide +kernel
theorem ge_36 : ga_36.all (fun t => (est t.1 t.2.1 4 && elen t.2.1 t.2.2) && estL t.2.1 4) = true := by decide +kernel
