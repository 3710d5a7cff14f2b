theorem ed_49 : ∀ t ∈ ec_49, decode cX11_areTwoOwners t.1 = .ok (t.2.1, t.2.2) := by decide +kernel
theorem ee_49 : ec_49.all (fun t => est t.1 t.2.1 3 && elen t.2.1 t.2.2) = true := by decide +kernel
theorem ed_50 : ∀ t ∈ ec_50, decode cX11_asked t.1 = .ok (t.2.1, t.2.2) := by decide +kernel
theorem ee_50 : ec_50.all (fun t => est t.1 t.2.1 1 && elen t.2.1 t.2.2) = true := by decide +kernel
theorem ed_51 : ∀ t ∈ ec_51, decode cX11_asks t.1 = .ok (t.2.1, t.2.2) := by decide +kernel
theorem ee_51 : ec_51.all (fun t => est t.1 t.2.1 3 && elen t.2.1 t.2.2) = true := by decide +kernel
theorem ed_52 : ∀ t ∈ ec_52, decode cX11_barred t.1 = .ok (t.2.1, t.2.2) := by decide +kernel
theorem ee_52 : ec_52.all (fun t => est t.1 t.2.1 2 && elen t.2.1 t.2.2) = true := by decide +kernel
theorem ed_53 : ∀ t ∈ ec_53, decode cX11_bit t.1 = .ok (t.2.1, t.2.2) := by decide +kernel
theorem ee_53 : ec_53.all (fun t => est t.1 t.2.1 1 && elen t.2.1 t.2.2) = true := by decide +kernel
theorem ed_54 : ∀ t ∈ ec_54, decode cX11_book t.1 = .ok (t.2.1, t.2.2) := by decide +kernel
theorem ee_54 : ec_54.all (fun t => est t.1 t.2.1 3 && elen t.2.1 t.2.2) = true := by decide +kernel
theorem ed_55 : ∀ t ∈ ec_55, decode cX11_booked t.1 = .ok (t.2.1, t.2.2) := by decide +kernel
theorem ee_55 : ec_55.all (fun t => est t.1 t.2.1 2 && elen t.2.1 t.2.2) = true := by decide +kernel
theorem ed_56 : ∀ t ∈ ec_56, decode cX11_burn t.1 = .ok (t.2.1, t.2.2) := by decide +kernel
theorem ee_56 : ec_56.all (fun t => est t.1 t.2.1 2 && elen t.2.1 t.2.2) = true := by decide +kernel
theorem ed_57 : ∀ t ∈ ec_57, decode cX11_corridor t.1 = .ok (t.2.1, t.2.2) := by decide +kernel
theorem ee_57 : ec_57.all (fun t => est t.1 t.2.1 4 && elen t.2.1 t.2.2) = true := by decide +kernel
theorem ed_58 : ∀ t ∈ ec_58, decode cX11_count t.1 = .ok (t.2.1, t.2.2) := by decide +kernel
theorem ee_58 : ec_58.all (fun t => est t.1 t.2.1 2 && elen t.2.1 t.2.2) = true := by decide +kernel
theorem ed_59 : ∀ t ∈ ec_59, decode cX11_cut t.1 = .ok (t.2.1, t.2.2) := by decide +kernel
theorem ee_59 : ec_59.all (fun t => est t.1 t.2.1 2 && elen t.2.1 t.2.2) = true := by decide +kernel
theorem ed_60 : ∀ t ∈ ec_60, decode cX11_die t.1 = .ok (t.2.1, t.2.2) := by decide +kernel
theorem ee_60 : ec_60.all (fun t => est t.1 t.2.1 2 && elen t.2.1 t.2.2) = true := by decide +kernel
theorem ed_61 : ∀ t ∈ ec_61, decode cX11_drawn t.1 = .ok (t.2.1, t.2.2) := by decide +kernel
theorem ee_61 : ec_61.all (fun t => est t.1 t.2.1 4 && elen t.2.1 t.2.2) = true := by decide +kernel
theorem ed_62 : ∀ t ∈ ec_62, decode cX11_end t.1 = .ok (t.2.1, t.2.2) := by decide +kernel
theorem ee_62 : ec_62.all (fun t => est t.1 t.2.1 2 && elen t.2.1 t.2.2) = true := by decide +kernel
theorem ed_63 : ∀ t ∈ ec_63, decode cX11_exchange t.1 = .ok (t.2.1, t.2.2) := by decide +kernel
theorem ee_63 : ec_63.all (fun t => est t.1 t.2.1 2 && elen t.2.1 t.2.2) = true := by decide +kernel
theorem ed_64 : ∀ t ∈ ec_64, decode cX11_fault t.1 = .ok (t.2.1, t.2.2) := by decide +kernel
theorem ee_64 : ec_64.all (fun t => est t.1 t.2.1 1 && elen t.2.1 t.2.2) = true := by decide +kernel
theorem ed_65 : ∀ t ∈ ec_65, decode cX11_feed t.1 = .ok (t.2.1, t.2.2) := by decide +kernel
theorem ee_65 : ec_65.all (fun t => est t.1 t.2.1 6 && elen t.2.1 t.2.2) = true := by decide +kernel
theorem ed_66 : ∀ t ∈ ec_66, decode cX11_fire t.1 = .ok (t.2.1, t.2.2) := by decide +kernel
theorem ee_66 : ec_66.all (fun t => est t.1 t.2.1 2 && elen t.2.1 t.2.2) = true := by decide +kernel
theorem ed_67 : ∀ t ∈ ec_67, decode cX11_go t.1 = .ok (t.2.1, t.2.2) := by decide +kernel
theorem ee_67 : ec_67.all (fun t => est t.1 t.2.1 3 && elen t.2.1 t.2.2) = true := by decide +kernel
theorem ed_68 : ∀ t ∈ ec_68, decode cX11_guests t.1 = .ok (t.2.1, t.2.2) := by decide +kernel
theorem ee_68 : ec_68.all (fun t => est t.1 t.2.1 5 && elen t.2.1 t.2.2) = true := by decide +kernel
theorem ed_69 : ∀ t ∈ ec_69, decode cX11_has t.1 = .ok (t.2.1, t.2.2) := by decide +kernel
theorem ee_69 : ec_69.all (fun t => est t.1 t.2.1 2 && elen t.2.1 t.2.2) = true := by decide +kernel
theorem ed_70 : ∀ t ∈ ec_70, decode cX11_heir t.1 = .ok (t.2.1, t.2.2) := by decide +kernel
theorem ee_70 : ec_70.all (fun t => est t.1 t.2.1 2 && elen t.2.1 t.2.2) = true := by decide +kernel
theorem ed_71 : ∀ t ∈ ec_71, decode cX11_image t.1 = .ok (t.2.1, t.2.2) := by decide +kernel
theorem ee_71 : ec_71.all (fun t => est t.1 t.2.1 2 && elen t.2.1 t.2.2) = true := by decide +kernel
theorem ed_72 : ∀ t ∈ ec_72, decode cX11_isBelow t.1 = .ok (t.2.1, t.2.2) := by decide +kernel
theorem ee_72 : ec_72.all (fun t => est t.1 t.2.1 2 && elen t.2.1 t.2.2) = true := by decide +kernel
theorem ed_73 : ∀ t ∈ ec_73, decode cX11_isOwner t.1 = .ok (t.2.1, t.2.2) := by decide +kernel
theorem ee_73 : ec_73.all (fun t => est t.1 t.2.1 2 && elen t.2.1 t.2.2) = true := by decide +kernel
theorem ed_74 : ∀ t ∈ ec_74, decode cX11_isPassage t.1 = .ok (t.2.1, t.2.2) := by decide +kernel
theorem ee_74 : ec_74.all (fun t => est t.1 t.2.1 2 && elen t.2.1 t.2.2) = true := by decide +kernel
theorem ed_75 : ∀ t ∈ ec_75, decode cX11_isRoom t.1 = .ok (t.2.1, t.2.2) := by decide +kernel
theorem ee_75 : ec_75.all (fun t => est t.1 t.2.1 2 && elen t.2.1 t.2.2) = true := by decide +kernel
theorem ed_76 : ∀ t ∈ ec_76, decode cX11_isRowOfRooms t.1 = .ok (t.2.1, t.2.2) := by decide +kernel
theorem ee_76 : ec_76.all (fun t => est t.1 t.2.1 3 && elen t.2.1 t.2.2) = true := by decide +kernel
theorem ed_77 : ∀ t ∈ ec_77, decode cX11_isSwitch t.1 = .ok (t.2.1, t.2.2) := by decide +kernel
theorem ee_77 : ec_77.all (fun t => est t.1 t.2.1 1 && elen t.2.1 t.2.2) = true := by decide +kernel
theorem ed_78 : ∀ t ∈ ec_78, decode cX11_keptIfDone t.1 = .ok (t.2.1, t.2.2) := by decide +kernel
theorem ee_78 : ec_78.all (fun t => est t.1 t.2.1 2 && elen t.2.1 t.2.2) = true := by decide +kernel
theorem ed_79 : ∀ t ∈ ec_79, decode cX11_leave t.1 = .ok (t.2.1, t.2.2) := by decide +kernel
theorem ee_79 : ec_79.all (fun t => est t.1 t.2.1 2 && elen t.2.1 t.2.2) = true := by decide +kernel
theorem ed_80 : ∀ t ∈ ec_80, decode cX11_let t.1 = .ok (t.2.1, t.2.2) := by decide +kernel
theorem ee_80 : ec_80.all (fun t => est t.1 t.2.1 4 && elen t.2.1 t.2.2) = true := by decide +kernel
theorem ed_81 : ∀ t ∈ ec_81, decode cX11_minutes t.1 = .ok (t.2.1, t.2.2) := by decide +kernel
theorem ee_81 : ec_81.all (fun t => est t.1 t.2.1 3 && elen t.2.1 t.2.2) = true := by decide +kernel
theorem ed_82 : ∀ t ∈ ec_82, decode cX11_mixed t.1 = .ok (t.2.1, t.2.2) := by decide +kernel
theorem ee_82 : ec_82.all (fun t => est t.1 t.2.1 3 && elen t.2.1 t.2.2) = true := by decide +kernel
theorem ed_83 : ∀ t ∈ ec_83, decode cX11_now t.1 = .ok (t.2.1, t.2.2) := by decide +kernel
theorem ee_83 : ec_83.all (fun t => est t.1 t.2.1 2 && elen t.2.1 t.2.2) = true := by decide +kernel
theorem ed_84 : ∀ t ∈ ec_84, decode cX11_odds t.1 = .ok (t.2.1, t.2.2) := by decide +kernel
theorem ee_84 : ec_84.all (fun t => est t.1 t.2.1 7 && elen t.2.1 t.2.2) = true := by decide +kernel
theorem ed_85 : ∀ t ∈ ec_85, decode cX11_owner t.1 = .ok (t.2.1, t.2.2) := by decide +kernel
theorem ee_85 : ec_85.all (fun t => est t.1 t.2.1 3 && elen t.2.1 t.2.2) = true := by decide +kernel
theorem ed_86 : ∀ t ∈ ec_86, decode cX11_passage t.1 = .ok (t.2.1, t.2.2) := by decide +kernel
theorem ee_86 : ec_86.all (fun t => est t.1 t.2.1 3 && elen t.2.1 t.2.2) = true := by decide +kernel
theorem ed_87 : ∀ t ∈ ec_87, decode cX11_price t.1 = .ok (t.2.1, t.2.2) := by decide +kernel
theorem ee_87 : ec_87.all (fun t => est t.1 t.2.1 2 && elen t.2.1 t.2.2) = true := by decide +kernel
theorem ed_88 : ∀ t ∈ ec_88, decode cX11_prices t.1 = .ok (t.2.1, t.2.2) := by decide +kernel
theorem ee_88 : ec_88.all (fun t => est t.1 t.2.1 1 && elen t.2.1 t.2.2) = true := by decide +kernel
theorem ed_89 : ∀ t ∈ ec_89, decode cX11_restore t.1 = .ok (t.2.1, t.2.2) := by decide +kernel
theorem ee_89 : ec_89.all (fun t => est t.1 t.2.1 2 && elen t.2.1 t.2.2) = true := by decide +kernel
theorem ed_90 : ∀ t ∈ ec_90, decode cX11_rings t.1 = .ok (t.2.1, t.2.2) := by decide +kernel
theorem ee_90 : ec_90.all (fun t => est t.1 t.2.1 1 && elen t.2.1 t.2.2) = true := by decide +kernel
theorem ed_91 : ∀ t ∈ ec_91, decode cX11_said t.1 = .ok (t.2.1, t.2.2) := by decide +kernel
theorem ee_91 : ec_91.all (fun t => est t.1 t.2.1 5 && elen t.2.1 t.2.2) = true := by decide +kernel
theorem ed_92 : ∀ t ∈ ec_92, decode cX11_sell t.1 = .ok (t.2.1, t.2.2) := by decide +kernel
theorem ee_92 : ec_92.all (fun t => est t.1 t.2.1 4 && elen t.2.1 t.2.2) = true := by decide +kernel
theorem ed_93 : ∀ t ∈ ec_93, decode cX11_sentence t.1 = .ok (t.2.1, t.2.2) := by decide +kernel
theorem ee_93 : ec_93.all (fun t => est t.1 t.2.1 2 && elen t.2.1 t.2.2) = true := by decide +kernel
theorem ed_94 : ∀ t ∈ ec_94, decode cX11_shut t.1 = .ok (t.2.1, t.2.2) := by decide +kernel
theorem ee_94 : ec_94.all (fun t => est t.1 t.2.1 3 && elen t.2.1 t.2.2) = true := by decide +kernel
theorem ed_95 : ∀ t ∈ ec_95, decode cX11_spread t.1 = .ok (t.2.1, t.2.2) := by decide +kernel
theorem ee_95 : ec_95.all (fun t => est t.1 t.2.1 2 && elen t.2.1 t.2.2) = true := by decide +kernel
theorem ed_96 : ∀ t ∈ ec_96, decode cX11_step t.1 = .ok (t.2.1, t.2.2) := by decide +kernel
theorem ee_96 : ec_96.all (fun t => est t.1 t.2.1 2 && elen t.2.1 t.2.2) = true := by decide +kernel
theorem ed_97 : ∀ t ∈ ec_97, decode cX11_terrace t.1 = .ok (t.2.1, t.2.2) := by decide +kernel
theorem ee_97 : ec_97.all (fun t => est t.1 t.2.1 2 && elen t.2.1 t.2.2) = true := by decide +kernel
theorem ed_98 : ∀ t ∈ ec_98, decode cX11_through t.1 = .ok (t.2.1, t.2.2) := by decide +kernel
theorem ee_98 : ec_98.all (fun t => est t.1 t.2.1 4 && elen t.2.1 t.2.2) = true := by decide +kernel
theorem ed_99 : ∀ t ∈ ec_99, decode cX11_undo t.1 = .ok (t.2.1, t.2.2) := by decide +kernel
theorem ee_99 : ec_99.all (fun t => est t.1 t.2.1 1 && elen t.2.1 t.2.2) = true := by decide +kernel
theorem ed_100 : ∀ t ∈ ec_100, decode cX11_walked t.1 = .ok (t.2.1, t.2.2) := by decide +kernel
theorem ee_100 : ec_100.all (fun t => est t.1 t.2.1 2 && elen t.2.1 t.2.2) = true := by decide +kernel
theorem ed_101 : ∀ t ∈ ec_101, decode cX11_wants t.1 = .ok (t.2.1, t.2.2) := by decide +kernel
theorem ee_101 : ec_101.all (fun t => est t.1 t.2.1 2 && elen t.2.1 t.2.2) = true := by decide +kernel
theorem ed_102 : ∀ t ∈ ec_102, decode cX11_way t.1 = .ok (t.2.1, t.2.2) := by decide +kernel
theorem ee_102 : ec_102.all (fun t => est t.1 t.2.1 4 && elen t.2.1 t.2.2) = true := by decide +kernel
theorem ed_103 : ∀ t ∈ ec_103, decode cX11_will t.1 = .ok (t.2.1, t.2.2) := by decide +kernel
theorem ee_103 : ec_103.all (fun t => est t.1 t.2.1 3 && elen t.2.1 t.2.2) = true := by decide +kernel
def ec_104_0 : List eI := [(0, .aload_n 0, 1), (1, .invokespecial 27, 3), (4, .aload_n 0, 1), (5, .sipush 940, 3), (8, .newarray .byte, 2), (10, .putfield 14, 3), (13, .aload_n 0, 1), (14, .sipush 402, 3), (17, .newarray .int, 2), (19, .putfield 33, 3), (22, .aload_n 0, 1), (23, .sipush 179, 3), (26, .newarray .int, 2), (28, .putfield 37, 3), (31, .aload_n 0, 1), (32, .sipush 160, 3), (35, .newarray .int, 2), (37, .putfield 40, 3), (40, .aload_n 0, 1), (41, .bipush 48, 2), (43, .newarray .long, 2), (45, .putfield 43, 3), (48, .aload_n 0, 1), (49, .bipush 30, 2), (51, .newarray .long, 2), (53, .putfield 47, 3), (56, .aload_n 0, 1), (57, .sipush 336, 3), (60, .newarray .int, 2), (62, .putfield 50, 3), (65, .aload_n 0, 1), (66, .bipush 42, 2), (68, .newarray .int, 2), (70, .putfield 53, 3), (73, .aload_n 0, 1), (74, .bipush 12, 2), (76, .newarray .int, 2), (78, .putfield 56, 3), (81, .aload_n 0, 1), (82, .bipush 12, 2), (84, .newarray .int, 2), (86, .putfield 59, 3), (89, .aload_n 0, 1), (90, .bipush 12, 2), (92, .newarray .int, 2), (94, .putfield 62, 3), (97, .aload_n 0, 1), (98, .sipush 144, 3), (101, .newarray .int, 2), (103, .putfield 65, 3), (106, .aload_n 0, 1), (107, .bipush 12, 2), (109, .newarray .int, 2), (111, .putfield 68, 3), (114, .aload_n 0, 1), (115, .bipush 12, 2), (117, .newarray .int, 2), (119, .putfield 71, 3), (122, .aload_n 0, 1), (123, .bipush 6, 2), (125, .newarray .int, 2), (127, .putfield 74, 3), (130, .aload_n 0, 1), (131, .bipush 6, 2), (133, .newarray .int, 2), (135, .putfield 77, 3), (138, .aload_n 0, 1), (139, .bipush 6, 2), (141, .newarray .int, 2), (143, .putfield 80, 3), (146, .aload_n 0, 1), (147, .bipush 12, 2), (149, .newarray .int, 2), (151, .putfield 83, 3), (154, .aload_n 0, 1), (155, .bipush 6, 2), (157, .newarray .int, 2), (159, .putfield 86, 3), (162, .aload_n 0, 1), (163, .bipush 12, 2)]
theorem ed_104_0 : ∀ t ∈ ec_104_0, decode cX12_init t.1 = .ok (t.2.1, t.2.2) := by decide +kernel
def ec_104_1 : List eI := [(165, .newarray .int, 2), (167, .putfield 89, 3), (170, .aload_n 0, 1), (171, .iconst (-1), 1), (172, .putfield 92, 3), (175, .aload_n 0, 1), (176, .iconst 4, 1), (177, .newarray .int, 2), (179, .putfield 95, 3), (182, .aload_n 0, 1), (183, .bipush 45, 2), (185, .newarray .int, 2), (187, .putfield 98, 3), (190, .aload_n 0, 1), (191, .bipush 45, 2), (193, .newarray .boolean, 2), (195, .putfield 101, 3), (198, .aload_n 0, 1), (199, .sipush 804, 3), (202, .newarray .int, 2), (204, .putfield 105, 3), (207, .aload_n 0, 1), (208, .bipush 48, 2), (210, .newarray .long, 2), (212, .putfield 108, 3), (215, .aload_n 0, 1), (216, .iconst 2, 1), (217, .newarray .boolean, 2), (219, .putfield 111, 3), (222, .aload_n 0, 1), (223, .getfield 47, 3), (226, .iconst 0, 1), (227, .ldc2_w 114, 3), (230, .lastore, 1), (231, .aload_n 0, 1), (232, .getfield 47, 3), (235, .iconst 1, 1), (236, .ldc2_w 116, 3), (239, .lastore, 1), (240, .aload_n 0, 1), (241, .getfield 47, 3), (244, .iconst 2, 1), (245, .ldc2_w 118, 3), (248, .lastore, 1), (249, .aload_n 0, 1), (250, .getfield 47, 3), (253, .iconst 3, 1), (254, .ldc2_w 120, 3), (257, .lastore, 1), (258, .aload_n 0, 1), (259, .getfield 47, 3), (262, .iconst 4, 1), (263, .ldc2_w 122, 3), (266, .lastore, 1), (267, .aload_n 0, 1), (268, .getfield 47, 3), (271, .iconst 5, 1), (272, .ldc2_w 124, 3), (275, .lastore, 1), (276, .aload_n 0, 1), (277, .getfield 47, 3), (280, .bipush 6, 2), (282, .ldc2_w 126, 3), (285, .lastore, 1), (286, .aload_n 0, 1), (287, .getfield 47, 3), (290, .bipush 7, 2), (292, .ldc2_w 128, 3), (295, .lastore, 1), (296, .aload_n 0, 1), (297, .getfield 47, 3), (300, .bipush 8, 2), (302, .ldc2_w 130, 3), (305, .lastore, 1), (306, .aload_n 0, 1), (307, .getfield 47, 3), (310, .bipush 9, 2), (312, .ldc2_w 132, 3), (315, .lastore, 1), (316, .aload_n 0, 1)]
theorem ed_104_1 : ∀ t ∈ ec_104_1, decode cX12_init t.1 = .ok (t.2.1, t.2.2) := by decide +kernel
def ec_104_2 : List eI := [(317, .getfield 47, 3), (320, .bipush 10, 2), (322, .ldc2_w 134, 3), (325, .lastore, 1), (326, .aload_n 0, 1), (327, .getfield 47, 3), (330, .bipush 11, 2), (332, .ldc2_w 136, 3), (335, .lastore, 1), (336, .aload_n 0, 1), (337, .getfield 47, 3), (340, .bipush 12, 2), (342, .ldc2_w 138, 3), (345, .lastore, 1), (346, .aload_n 0, 1), (347, .getfield 47, 3), (350, .bipush 13, 2), (352, .ldc2_w 140, 3), (355, .lastore, 1), (356, .aload_n 0, 1), (357, .getfield 47, 3), (360, .bipush 14, 2), (362, .ldc2_w 142, 3), (365, .lastore, 1), (366, .aload_n 0, 1), (367, .getfield 47, 3), (370, .bipush 15, 2), (372, .ldc2_w 144, 3), (375, .lastore, 1), (376, .aload_n 0, 1), (377, .getfield 47, 3), (380, .bipush 16, 2), (382, .ldc2_w 146, 3), (385, .lastore, 1), (386, .aload_n 0, 1), (387, .getfield 47, 3), (390, .bipush 17, 2), (392, .ldc2_w 148, 3), (395, .lastore, 1), (396, .aload_n 0, 1), (397, .getfield 47, 3), (400, .bipush 18, 2), (402, .ldc2_w 150, 3), (405, .lastore, 1), (406, .aload_n 0, 1), (407, .getfield 47, 3), (410, .bipush 19, 2), (412, .ldc2_w 152, 3), (415, .lastore, 1), (416, .aload_n 0, 1), (417, .getfield 47, 3), (420, .bipush 20, 2), (422, .ldc2_w 154, 3), (425, .lastore, 1), (426, .aload_n 0, 1), (427, .getfield 47, 3), (430, .bipush 21, 2), (432, .ldc2_w 156, 3), (435, .lastore, 1), (436, .aload_n 0, 1), (437, .getfield 47, 3), (440, .bipush 22, 2), (442, .ldc2_w 158, 3), (445, .lastore, 1), (446, .aload_n 0, 1), (447, .getfield 47, 3), (450, .bipush 23, 2), (452, .ldc2_w 160, 3), (455, .lastore, 1), (456, .aload_n 0, 1), (457, .getfield 47, 3), (460, .bipush 24, 2), (462, .ldc2_w 162, 3), (465, .lastore, 1), (466, .aload_n 0, 1), (467, .getfield 47, 3), (470, .bipush 25, 2), (472, .ldc2_w 164, 3), (475, .lastore, 1), (476, .aload_n 0, 1)]
theorem ed_104_2 : ∀ t ∈ ec_104_2, decode cX12_init t.1 = .ok (t.2.1, t.2.2) := by decide +kernel
def ec_104_3 : List eI := [(477, .getfield 47, 3), (480, .bipush 26, 2), (482, .ldc2_w 166, 3), (485, .lastore, 1), (486, .aload_n 0, 1), (487, .getfield 47, 3), (490, .bipush 27, 2), (492, .ldc2_w 168, 3), (495, .lastore, 1), (496, .aload_n 0, 1), (497, .getfield 47, 3), (500, .bipush 28, 2), (502, .ldc2_w 170, 3), (505, .lastore, 1), (506, .aload_n 0, 1), (507, .getfield 47, 3), (510, .bipush 29, 2), (512, .ldc2_w 172, 3), (515, .lastore, 1), (516, .return_, 1)]
theorem ed_104_3 : ∀ t ∈ ec_104_3, decode cX12_init t.1 = .ok (t.2.1, t.2.2) := by decide +kernel
set_option maxRecDepth 100000 in
theorem ed_104 : ∀ t ∈ ec_104, decode cX12_init t.1 = .ok (t.2.1, t.2.2) := (show ∀ t ∈ ec_104_0 ++ (ec_104_1 ++ (ec_104_2 ++ (ec_104_3))), decode cX12_init t.1 = .ok (t.2.1, t.2.2) from List.forall_mem_append.mpr ⟨ed_104_0, List.forall_mem_append.mpr ⟨ed_104_1, List.forall_mem_append.mpr ⟨ed_104_2, ed_104_3⟩⟩⟩)
theorem ee_104 : ec_104.all (fun t => est t.1 t.2.1 1 && elen t.2.1 t.2.2) = true := by decide +kernel
