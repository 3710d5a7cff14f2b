theorem gd_37 : ∀ t ∈ ga_37, decode cX4_findPrices t.1 = .ok (t.2.1, t.2.2) := by decide +kernel
theorem ge_37 : ga_37.all (fun t => (est t.1 t.2.1 4 && elen t.2.1 t.2.2) && estL t.2.1 4) = true := by decide +kernel
theorem gd_38 : ∀ t ∈ ga_38, decode cX4_gather t.1 = .ok (t.2.1, t.2.2) := by decide +kernel
theorem ge_38 : ga_38.all (fun t => (est t.1 t.2.1 5 && elen t.2.1 t.2.2) && estL t.2.1 5) = true := by decide +kernel
theorem gd_39 : ∀ t ∈ ga_39, decode cX4_likedMost t.1 = .ok (t.2.1, t.2.2) := by decide +kernel
theorem ge_39 : ga_39.all (fun t => (est t.1 t.2.1 6 && elen t.2.1 t.2.2) && estL t.2.1 6) = true := by decide +kernel
theorem gd_40 : ∀ t ∈ ga_40, decode cX4_raisePrices t.1 = .ok (t.2.1, t.2.2) := by decide +kernel
theorem ge_40 : ga_40.all (fun t => (est t.1 t.2.1 5 && elen t.2.1 t.2.2) && estL t.2.1 5) = true := by decide +kernel
theorem gd_41 : ∀ t ∈ ga_41, decode cX4_ringOf t.1 = .ok (t.2.1, t.2.2) := by decide +kernel
theorem ge_41 : ga_41.all (fun t => (est t.1 t.2.1 5 && elen t.2.1 t.2.2) && estL t.2.1 5) = true := by decide +kernel
theorem gd_42 : ∀ t ∈ ga_42, decode cX4_trade t.1 = .ok (t.2.1, t.2.2) := by decide +kernel
theorem ge_42 : ga_42.all (fun t => (est t.1 t.2.1 6 && elen t.2.1 t.2.2) && estL t.2.1 6) = true := by decide +kernel
theorem gd_43 : ∀ t ∈ ga_43, decode cX5_confirm t.1 = .ok (t.2.1, t.2.2) := by decide +kernel
theorem ge_43 : ga_43.all (fun t => (est t.1 t.2.1 1 && elen t.2.1 t.2.2) && estL t.2.1 1) = true := by decide +kernel
theorem gd_44 : ∀ t ∈ ga_44, decode cX5_forget t.1 = .ok (t.2.1, t.2.2) := by decide +kernel
theorem ge_44 : ga_44.all (fun t => (est t.1 t.2.1 1 && elen t.2.1 t.2.2) && estL t.2.1 1) = true := by decide +kernel
theorem gd_45 : ∀ t ∈ ga_45, decode cX5_newest t.1 = .ok (t.2.1, t.2.2) := by decide +kernel
theorem ge_45 : ga_45.all (fun t => (est t.1 t.2.1 1 && elen t.2.1 t.2.2) && estL t.2.1 1) = true := by decide +kernel
theorem gd_46 : ∀ t ∈ ga_46, decode cX5_prepare t.1 = .ok (t.2.1, t.2.2) := by decide +kernel
theorem ge_46 : ga_46.all (fun t => (est t.1 t.2.1 2 && elen t.2.1 t.2.2) && estL t.2.1 2) = true := by decide +kernel
theorem gd_47 : ∀ t ∈ ga_47, decode cX5_takeBack t.1 = .ok (t.2.1, t.2.2) := by decide +kernel
theorem ge_47 : ga_47.all (fun t => (est t.1 t.2.1 2 && elen t.2.1 t.2.2) && estL t.2.1 2) = true := by decide +kernel
theorem gd_48 : ∀ t ∈ ga_48, decode cX6_addWord t.1 = .ok (t.2.1, t.2.2) := by decide +kernel
theorem ge_48 : ga_48.all (fun t => (est t.1 t.2.1 3 && elen t.2.1 t.2.2) && estL t.2.1 3) = true := by decide +kernel
theorem gd_49 : ∀ t ∈ ga_49, decode cX6_copyFrom t.1 = .ok (t.2.1, t.2.2) := by decide +kernel
theorem ge_49 : ga_49.all (fun t => (est t.1 t.2.1 2 && elen t.2.1 t.2.2) && estL t.2.1 2) = true := by decide +kernel
theorem gd_50 : ∀ t ∈ ga_50, decode cX6_forget t.1 = .ok (t.2.1, t.2.2) := by decide +kernel
theorem ge_50 : ga_50.all (fun t => (est t.1 t.2.1 1 && elen t.2.1 t.2.2) && estL t.2.1 1) = true := by decide +kernel
theorem gd_51 : ∀ t ∈ ga_51, decode cX6_measureOf t.1 = .ok (t.2.1, t.2.2) := by decide +kernel
theorem ge_51 : ga_51.all (fun t => (est t.1 t.2.1 4 && elen t.2.1 t.2.2) && estL t.2.1 4) = true := by decide +kernel
theorem gd_52 : ∀ t ∈ ga_52, decode cX6_readCond t.1 = .ok (t.2.1, t.2.2) := by decide +kernel
theorem ge_52 : ga_52.all (fun t => (est t.1 t.2.1 8 && elen t.2.1 t.2.2) && estL t.2.1 8) = true := by decide +kernel
theorem gd_53 : ∀ t ∈ ga_53, decode cX6_readMeasure t.1 = .ok (t.2.1, t.2.2) := by decide +kernel
theorem ge_53 : ga_53.all (fun t => (est t.1 t.2.1 5 && elen t.2.1 t.2.2) && estL t.2.1 5) = true := by decide +kernel
theorem gd_54 : ∀ t ∈ ga_54, decode cX6_readName t.1 = .ok (t.2.1, t.2.2) := by decide +kernel
theorem ge_54 : ga_54.all (fun t => (est t.1 t.2.1 4 && elen t.2.1 t.2.2) && estL t.2.1 4) = true := by decide +kernel
theorem gd_55 : ∀ t ∈ ga_55, decode cX6_readOne t.1 = .ok (t.2.1, t.2.2) := by decide +kernel
theorem ge_55 : ga_55.all (fun t => (est t.1 t.2.1 7 && elen t.2.1 t.2.2) && estL t.2.1 7) = true := by decide +kernel
theorem gd_56 : ∀ t ∈ ga_56, decode cX6_readText t.1 = .ok (t.2.1, t.2.2) := by decide +kernel
theorem ge_56 : ga_56.all (fun t => (est t.1 t.2.1 3 && elen t.2.1 t.2.2) && estL t.2.1 3) = true := by decide +kernel
theorem gd_57 : ∀ t ∈ ga_57, decode cX6_roomsByMeasure t.1 = .ok (t.2.1, t.2.2) := by decide +kernel
theorem ge_57 : ga_57.all (fun t => (est t.1 t.2.1 10 && elen t.2.1 t.2.2) && estL t.2.1 10) = true := by decide +kernel
theorem gd_58 : ∀ t ∈ ga_58, decode cX6_roomsByWord t.1 = .ok (t.2.1, t.2.2) := by decide +kernel
theorem ge_58 : ga_58.all (fun t => (est t.1 t.2.1 4 && elen t.2.1 t.2.2) && estL t.2.1 4) = true := by decide +kernel
theorem gd_59 : ∀ t ∈ ga_59, decode cX6_roomsSaid t.1 = .ok (t.2.1, t.2.2) := by decide +kernel
theorem ge_59 : ga_59.all (fun t => (est t.1 t.2.1 6 && elen t.2.1 t.2.2) && estL t.2.1 6) = true := by decide +kernel
theorem gd_60 : ∀ t ∈ ga_60, decode cX7_advance t.1 = .ok (t.2.1, t.2.2) := by decide +kernel
theorem ge_60 : ga_60.all (fun t => (est t.1 t.2.1 2 && elen t.2.1 t.2.2) && estL t.2.1 2) = true := by decide +kernel
theorem gd_61 : ∀ t ∈ ga_61, decode cX7_append t.1 = .ok (t.2.1, t.2.2) := by decide +kernel
theorem ge_61 : ga_61.all (fun t => (est t.1 t.2.1 3 && elen t.2.1 t.2.2) && estL t.2.1 3) = true := by decide +kernel
theorem gd_62 : ∀ t ∈ ga_62, decode cX7_begin t.1 = .ok (t.2.1, t.2.2) := by decide +kernel
theorem ge_62 : ga_62.all (fun t => (est t.1 t.2.1 2 && elen t.2.1 t.2.2) && estL t.2.1 2) = true := by decide +kernel
theorem gd_63 : ∀ t ∈ ga_63, decode cX7_byteAt t.1 = .ok (t.2.1, t.2.2) := by decide +kernel
theorem ge_63 : ga_63.all (fun t => (est t.1 t.2.1 2 && elen t.2.1 t.2.2) && estL t.2.1 2) = true := by decide +kernel
theorem gd_64 : ∀ t ∈ ga_64, decode cX7_codeWith t.1 = .ok (t.2.1, t.2.2) := by decide +kernel
theorem ge_64 : ga_64.all (fun t => (est t.1 t.2.1 3 && elen t.2.1 t.2.2) && estL t.2.1 3) = true := by decide +kernel
theorem gd_65 : ∀ t ∈ ga_65, decode cX7_fail t.1 = .ok (t.2.1, t.2.2) := by decide +kernel
theorem ge_65 : ga_65.all (fun t => (est t.1 t.2.1 2 && elen t.2.1 t.2.2) && estL t.2.1 2) = true := by decide +kernel
theorem gd_66 : ∀ t ∈ ga_66, decode cX7_goesOn t.1 = .ok (t.2.1, t.2.2) := by decide +kernel
theorem ge_66 : ga_66.all (fun t => (est t.1 t.2.1 1 && elen t.2.1 t.2.2) && estL t.2.1 1) = true := by decide +kernel
theorem gd_67 : ∀ t ∈ ga_67, decode cX7_isBlank t.1 = .ok (t.2.1, t.2.2) := by decide +kernel
theorem ge_67 : ga_67.all (fun t => (est t.1 t.2.1 1 && elen t.2.1 t.2.2) && estL t.2.1 1) = true := by decide +kernel
theorem gd_68 : ∀ t ∈ ga_68, decode cX7_isSign t.1 = .ok (t.2.1, t.2.2) := by decide +kernel
theorem ge_68 : ga_68.all (fun t => (est t.1 t.2.1 2 && elen t.2.1 t.2.2) && estL t.2.1 2) = true := by decide +kernel
theorem gd_69 : ∀ t ∈ ga_69, decode cX7_keyword t.1 = .ok (t.2.1, t.2.2) := by decide +kernel
theorem ge_69 : ga_69.all (fun t => (est t.1 t.2.1 1 && elen t.2.1 t.2.2) && estL t.2.1 1) = true := by decide +kernel
theorem gd_70 : ∀ t ∈ ga_70, decode cX7_keywordBy t.1 = .ok (t.2.1, t.2.2) := by decide +kernel
theorem ge_70 : ga_70.all (fun t => (est t.1 t.2.1 4 && elen t.2.1 t.2.2) && estL t.2.1 4) = true := by decide +kernel
theorem gd_71 : ∀ t ∈ ga_71, decode cX7_numberWithin t.1 = .ok (t.2.1, t.2.2) := by decide +kernel
theorem ge_71 : ga_71.all (fun t => (est t.1 t.2.1 3 && elen t.2.1 t.2.2) && estL t.2.1 3) = true := by decide +kernel
theorem gd_72 : ∀ t ∈ ga_72, decode cX7_readRun t.1 = .ok (t.2.1, t.2.2) := by decide +kernel
theorem ge_72 : ga_72.all (fun t => (est t.1 t.2.1 5 && elen t.2.1 t.2.2) && estL t.2.1 5) = true := by decide +kernel
theorem gd_73 : ∀ t ∈ ga_73, decode cX7_readSign t.1 = .ok (t.2.1, t.2.2) := by decide +kernel
theorem ge_73 : ga_73.all (fun t => (est t.1 t.2.1 3 && elen t.2.1 t.2.2) && estL t.2.1 3) = true := by decide +kernel
theorem gd_74 : ∀ t ∈ ga_74, decode cX7_takeSign t.1 = .ok (t.2.1, t.2.2) := by decide +kernel
theorem ge_74 : ga_74.all (fun t => (est t.1 t.2.1 2 && elen t.2.1 t.2.2) && estL t.2.1 2) = true := by decide +kernel
theorem gd_75 : ∀ t ∈ ga_75, decode cX7_toldName t.1 = .ok (t.2.1, t.2.2) := by decide +kernel
theorem ge_75 : ga_75.all (fun t => (est t.1 t.2.1 4 && elen t.2.1 t.2.2) && estL t.2.1 4) = true := by decide +kernel
theorem gd_76 : ∀ t ∈ ga_76, decode cX8_allRooms t.1 = .ok (t.2.1, t.2.2) := by decide +kernel
theorem ge_76 : ga_76.all (fun t => (est t.1 t.2.1 1 && elen t.2.1 t.2.2) && estL t.2.1 1) = true := by decide +kernel
theorem gd_77 : ∀ t ∈ ga_77, decode cX8_areJoined t.1 = .ok (t.2.1, t.2.2) := by decide +kernel
theorem ge_77 : ga_77.all (fun t => (est t.1 t.2.1 3 && elen t.2.1 t.2.2) && estL t.2.1 3) = true := by decide +kernel
theorem gd_78 : ∀ t ∈ ga_78, decode cX8_around t.1 = .ok (t.2.1, t.2.2) := by decide +kernel
theorem ge_78 : ga_78.all (fun t => (est t.1 t.2.1 5 && elen t.2.1 t.2.2) && estL t.2.1 5) = true := by decide +kernel
theorem gd_79 : ∀ t ∈ ga_79, decode cX8_copyFrom t.1 = .ok (t.2.1, t.2.2) := by decide +kernel
theorem ge_79 : ga_79.all (fun t => (est t.1 t.2.1 2 && elen t.2.1 t.2.2) && estL t.2.1 2) = true := by decide +kernel
theorem gd_80 : ∀ t ∈ ga_80, decode cX8_forget t.1 = .ok (t.2.1, t.2.2) := by decide +kernel
theorem ge_80 : ga_80.all (fun t => (est t.1 t.2.1 1 && elen t.2.1 t.2.2) && estL t.2.1 1) = true := by decide +kernel
theorem gd_81 : ∀ t ∈ ga_81, decode cX8_indexOf t.1 = .ok (t.2.1, t.2.2) := by decide +kernel
theorem ge_81 : ga_81.all (fun t => (est t.1 t.2.1 7 && elen t.2.1 t.2.2) && estL t.2.1 7) = true := by decide +kernel
theorem gd_82 : ∀ t ∈ ga_82, decode cX8_isFull t.1 = .ok (t.2.1, t.2.2) := by decide +kernel
theorem ge_82 : ga_82.all (fun t => (est t.1 t.2.1 2 && elen t.2.1 t.2.2) && estL t.2.1 2) = true := by decide +kernel
theorem gd_83 : ∀ t ∈ ga_83, decode cX8_isTold t.1 = .ok (t.2.1, t.2.2) := by decide +kernel
theorem ge_83 : ga_83.all (fun t => (est t.1 t.2.1 3 && elen t.2.1 t.2.2) && estL t.2.1 3) = true := by decide +kernel
theorem gd_84 : ∀ t ∈ ga_84, decode cX8_join t.1 = .ok (t.2.1, t.2.2) := by decide +kernel
theorem ge_84 : ga_84.all (fun t => (est t.1 t.2.1 4 && elen t.2.1 t.2.2) && estL t.2.1 4) = true := by decide +kernel
theorem gd_85 : ∀ t ∈ ga_85, decode cX8_like t.1 = .ok (t.2.1, t.2.2) := by decide +kernel
theorem ge_85 : ga_85.all (fun t => (est t.1 t.2.1 4 && elen t.2.1 t.2.2) && estL t.2.1 4) = true := by decide +kernel
theorem gd_86 : ∀ t ∈ ga_86, decode cX8_liking t.1 = .ok (t.2.1, t.2.2) := by decide +kernel
theorem ge_86 : ga_86.all (fun t => (est t.1 t.2.1 3 && elen t.2.1 t.2.2) && estL t.2.1 3) = true := by decide +kernel
theorem gd_87 : ∀ t ∈ ga_87, decode cX8_manyOf t.1 = .ok (t.2.1, t.2.2) := by decide +kernel
theorem ge_87 : ga_87.all (fun t => (est t.1 t.2.1 2 && elen t.2.1 t.2.2) && estL t.2.1 2) = true := by decide +kernel
