theorem ed_0 : ∀ t ∈ ec_0, decode cX0_init t.1 = .ok (t.2.1, t.2.2) := by decide +kernel
theorem ee_0 : ec_0.all (fun t => est t.1 t.2.1 1 && elen t.2.1 t.2.2) = true := by decide +kernel
theorem ed_1 : ∀ t ∈ ec_1, decode cX0_live t.1 = .ok (t.2.1, t.2.2) := by decide +kernel
theorem ee_1 : ec_1.all (fun t => est t.1 t.2.1 5 && elen t.2.1 t.2.2) = true := by decide +kernel
theorem ed_2 : ∀ t ∈ ec_2, decode cX0_readText t.1 = .ok (t.2.1, t.2.2) := by decide +kernel
theorem ee_2 : ec_2.all (fun t => est t.1 t.2.1 4 && elen t.2.1 t.2.2) = true := by decide +kernel
theorem ed_3 : ∀ t ∈ ec_3, decode cX1_init t.1 = .ok (t.2.1, t.2.2) := by decide +kernel
theorem ee_3 : ec_3.all (fun t => est t.1 t.2.1 1 && elen t.2.1 t.2.2) = true := by decide +kernel
theorem ed_4 : ∀ t ∈ ec_4, decode cX1_allGoings t.1 = .ok (t.2.1, t.2.2) := by decide +kernel
theorem ee_4 : ec_4.all (fun t => est t.1 t.2.1 3 && elen t.2.1 t.2.2) = true := by decide +kernel
theorem ed_5 : ∀ t ∈ ec_5, decode cX1_copyFrom t.1 = .ok (t.2.1, t.2.2) := by decide +kernel
theorem ee_5 : ec_5.all (fun t => est t.1 t.2.1 2 && elen t.2.1 t.2.2) = true := by decide +kernel
theorem ed_6 : ∀ t ∈ ec_6, decode cX1_forget t.1 = .ok (t.2.1, t.2.2) := by decide +kernel
theorem ee_6 : ec_6.all (fun t => est t.1 t.2.1 1 && elen t.2.1 t.2.2) = true := by decide +kernel
theorem ed_7 : ∀ t ∈ ec_7, decode cX1_passMinutes t.1 = .ok (t.2.1, t.2.2) := by decide +kernel
theorem ee_7 : ec_7.all (fun t => est t.1 t.2.1 6 && elen t.2.1 t.2.2) = true := by decide +kernel
theorem ed_8 : ∀ t ∈ ec_8, decode cX1_roomsOf t.1 = .ok (t.2.1, t.2.2) := by decide +kernel
theorem ee_8 : ec_8.all (fun t => est t.1 t.2.1 4 && elen t.2.1 t.2.2) = true := by decide +kernel
theorem ed_9 : ∀ t ∈ ec_9, decode cX2_init t.1 = .ok (t.2.1, t.2.2) := by decide +kernel
theorem ee_9 : ec_9.all (fun t => est t.1 t.2.1 1 && elen t.2.1 t.2.2) = true := by decide +kernel
theorem ed_10 : ∀ t ∈ ec_10, decode cX3_init t.1 = .ok (t.2.1, t.2.2) := by decide +kernel
theorem ee_10 : ec_10.all (fun t => est t.1 t.2.1 1 && elen t.2.1 t.2.2) = true := by decide +kernel
theorem ed_11 : ∀ t ∈ ec_11, decode cX3_burntIn t.1 = .ok (t.2.1, t.2.2) := by decide +kernel
theorem ee_11 : ec_11.all (fun t => est t.1 t.2.1 6 && elen t.2.1 t.2.2) = true := by decide +kernel
theorem ed_12 : ∀ t ∈ ec_12, decode cX4_init t.1 = .ok (t.2.1, t.2.2) := by decide +kernel
theorem ee_12 : ec_12.all (fun t => est t.1 t.2.1 1 && elen t.2.1 t.2.2) = true := by decide +kernel
theorem ed_13 : ∀ t ∈ ec_13, decode cX4_choose t.1 = .ok (t.2.1, t.2.2) := by decide +kernel
theorem ee_13 : ec_13.all (fun t => est t.1 t.2.1 4 && elen t.2.1 t.2.2) = true := by decide +kernel
theorem ed_14 : ∀ t ∈ ec_14, decode cX4_closeRings t.1 = .ok (t.2.1, t.2.2) := by decide +kernel
theorem ee_14 : ec_14.all (fun t => est t.1 t.2.1 4 && elen t.2.1 t.2.2) = true := by decide +kernel
theorem ed_15 : ∀ t ∈ ec_15, decode cX4_findPrices t.1 = .ok (t.2.1, t.2.2) := by decide +kernel
theorem ee_15 : ec_15.all (fun t => est t.1 t.2.1 4 && elen t.2.1 t.2.2) = true := by decide +kernel
theorem ed_16 : ∀ t ∈ ec_16, decode cX4_gather t.1 = .ok (t.2.1, t.2.2) := by decide +kernel
theorem ee_16 : ec_16.all (fun t => est t.1 t.2.1 5 && elen t.2.1 t.2.2) = true := by decide +kernel
theorem ed_17 : ∀ t ∈ ec_17, decode cX4_raisePrices t.1 = .ok (t.2.1, t.2.2) := by decide +kernel
theorem ee_17 : ec_17.all (fun t => est t.1 t.2.1 5 && elen t.2.1 t.2.2) = true := by decide +kernel
theorem ed_18 : ∀ t ∈ ec_18, decode cX4_ringOf t.1 = .ok (t.2.1, t.2.2) := by decide +kernel
theorem ee_18 : ec_18.all (fun t => est t.1 t.2.1 5 && elen t.2.1 t.2.2) = true := by decide +kernel
theorem ed_19 : ∀ t ∈ ec_19, decode cX4_trade t.1 = .ok (t.2.1, t.2.2) := by decide +kernel
theorem ee_19 : ec_19.all (fun t => est t.1 t.2.1 6 && elen t.2.1 t.2.2) = true := by decide +kernel
theorem ed_20 : ∀ t ∈ ec_20, decode cX5_init t.1 = .ok (t.2.1, t.2.2) := by decide +kernel
theorem ee_20 : ec_20.all (fun t => est t.1 t.2.1 2 && elen t.2.1 t.2.2) = true := by decide +kernel
theorem ed_21 : ∀ t ∈ ec_21, decode cX5_confirm t.1 = .ok (t.2.1, t.2.2) := by decide +kernel
theorem ee_21 : ec_21.all (fun t => est t.1 t.2.1 1 && elen t.2.1 t.2.2) = true := by decide +kernel
theorem ed_22 : ∀ t ∈ ec_22, decode cX5_forget t.1 = .ok (t.2.1, t.2.2) := by decide +kernel
theorem ee_22 : ec_22.all (fun t => est t.1 t.2.1 1 && elen t.2.1 t.2.2) = true := by decide +kernel
theorem ed_23 : ∀ t ∈ ec_23, decode cX5_newest t.1 = .ok (t.2.1, t.2.2) := by decide +kernel
theorem ee_23 : ec_23.all (fun t => est t.1 t.2.1 1 && elen t.2.1 t.2.2) = true := by decide +kernel
theorem ed_24 : ∀ t ∈ ec_24, decode cX5_prepare t.1 = .ok (t.2.1, t.2.2) := by decide +kernel
theorem ee_24 : ec_24.all (fun t => est t.1 t.2.1 2 && elen t.2.1 t.2.2) = true := by decide +kernel
theorem ed_25 : ∀ t ∈ ec_25, decode cX5_takeBack t.1 = .ok (t.2.1, t.2.2) := by decide +kernel
theorem ee_25 : ec_25.all (fun t => est t.1 t.2.1 2 && elen t.2.1 t.2.2) = true := by decide +kernel
theorem ed_26 : ∀ t ∈ ec_26, decode cX6_init t.1 = .ok (t.2.1, t.2.2) := by decide +kernel
theorem ee_26 : ec_26.all (fun t => est t.1 t.2.1 1 && elen t.2.1 t.2.2) = true := by decide +kernel
theorem ed_27 : ∀ t ∈ ec_27, decode cX6_copyFrom t.1 = .ok (t.2.1, t.2.2) := by decide +kernel
theorem ee_27 : ec_27.all (fun t => est t.1 t.2.1 2 && elen t.2.1 t.2.2) = true := by decide +kernel
theorem ed_28 : ∀ t ∈ ec_28, decode cX6_forget t.1 = .ok (t.2.1, t.2.2) := by decide +kernel
theorem ee_28 : ec_28.all (fun t => est t.1 t.2.1 1 && elen t.2.1 t.2.2) = true := by decide +kernel
theorem ed_29 : ∀ t ∈ ec_29, decode cX6_readCond t.1 = .ok (t.2.1, t.2.2) := by decide +kernel
theorem ee_29 : ec_29.all (fun t => est t.1 t.2.1 8 && elen t.2.1 t.2.2) = true := by decide +kernel
theorem ed_30 : ∀ t ∈ ec_30, decode cX6_readOne t.1 = .ok (t.2.1, t.2.2) := by decide +kernel
theorem ee_30 : ec_30.all (fun t => est t.1 t.2.1 7 && elen t.2.1 t.2.2) = true := by decide +kernel
theorem ed_31 : ∀ t ∈ ec_31, decode cX6_readText t.1 = .ok (t.2.1, t.2.2) := by decide +kernel
theorem ee_31 : ec_31.all (fun t => est t.1 t.2.1 3 && elen t.2.1 t.2.2) = true := by decide +kernel
theorem ed_32 : ∀ t ∈ ec_32, decode cX7_init t.1 = .ok (t.2.1, t.2.2) := by decide +kernel
theorem ee_32 : ec_32.all (fun t => est t.1 t.2.1 2 && elen t.2.1 t.2.2) = true := by decide +kernel
theorem ed_33 : ∀ t ∈ ec_33, decode cX7_advance t.1 = .ok (t.2.1, t.2.2) := by decide +kernel
theorem ee_33 : ec_33.all (fun t => est t.1 t.2.1 2 && elen t.2.1 t.2.2) = true := by decide +kernel
theorem ed_34 : ∀ t ∈ ec_34, decode cX7_append t.1 = .ok (t.2.1, t.2.2) := by decide +kernel
theorem ee_34 : ec_34.all (fun t => est t.1 t.2.1 3 && elen t.2.1 t.2.2) = true := by decide +kernel
theorem ed_35 : ∀ t ∈ ec_35, decode cX7_begin t.1 = .ok (t.2.1, t.2.2) := by decide +kernel
theorem ee_35 : ec_35.all (fun t => est t.1 t.2.1 2 && elen t.2.1 t.2.2) = true := by decide +kernel
theorem ed_36 : ∀ t ∈ ec_36, decode cX7_fail t.1 = .ok (t.2.1, t.2.2) := by decide +kernel
theorem ee_36 : ec_36.all (fun t => est t.1 t.2.1 2 && elen t.2.1 t.2.2) = true := by decide +kernel
theorem ed_37 : ∀ t ∈ ec_37, decode cX7_isSign t.1 = .ok (t.2.1, t.2.2) := by decide +kernel
theorem ee_37 : ec_37.all (fun t => est t.1 t.2.1 2 && elen t.2.1 t.2.2) = true := by decide +kernel
theorem ed_38 : ∀ t ∈ ec_38, decode cX7_keyword t.1 = .ok (t.2.1, t.2.2) := by decide +kernel
theorem ee_38 : ec_38.all (fun t => est t.1 t.2.1 1 && elen t.2.1 t.2.2) = true := by decide +kernel
theorem ed_39 : ∀ t ∈ ec_39, decode cX8_init t.1 = .ok (t.2.1, t.2.2) := by decide +kernel
theorem ee_39 : ec_39.all (fun t => est t.1 t.2.1 1 && elen t.2.1 t.2.2) = true := by decide +kernel
theorem ed_40 : ∀ t ∈ ec_40, decode cX8_allRooms t.1 = .ok (t.2.1, t.2.2) := by decide +kernel
theorem ee_40 : ec_40.all (fun t => est t.1 t.2.1 1 && elen t.2.1 t.2.2) = true := by decide +kernel
theorem ed_41 : ∀ t ∈ ec_41, decode cX8_around t.1 = .ok (t.2.1, t.2.2) := by decide +kernel
theorem ee_41 : ec_41.all (fun t => est t.1 t.2.1 5 && elen t.2.1 t.2.2) = true := by decide +kernel
theorem ed_42 : ∀ t ∈ ec_42, decode cX8_copyFrom t.1 = .ok (t.2.1, t.2.2) := by decide +kernel
theorem ee_42 : ec_42.all (fun t => est t.1 t.2.1 2 && elen t.2.1 t.2.2) = true := by decide +kernel
theorem ed_43 : ∀ t ∈ ec_43, decode cX8_forget t.1 = .ok (t.2.1, t.2.2) := by decide +kernel
theorem ee_43 : ec_43.all (fun t => est t.1 t.2.1 1 && elen t.2.1 t.2.2) = true := by decide +kernel
theorem ed_44 : ∀ t ∈ ec_44, decode cX8_manyOf t.1 = .ok (t.2.1, t.2.2) := by decide +kernel
theorem ee_44 : ec_44.all (fun t => est t.1 t.2.1 2 && elen t.2.1 t.2.2) = true := by decide +kernel
theorem ed_45 : ∀ t ∈ ec_45, decode cX9_init t.1 = .ok (t.2.1, t.2.2) := by decide +kernel
theorem ee_45 : ec_45.all (fun t => est t.1 t.2.1 1 && elen t.2.1 t.2.2) = true := by decide +kernel
theorem ed_46 : ∀ t ∈ ec_46, decode cX9_readText t.1 = .ok (t.2.1, t.2.2) := by decide +kernel
theorem ee_46 : ec_46.all (fun t => est t.1 t.2.1 3 && elen t.2.1 t.2.2) = true := by decide +kernel
theorem ed_47 : ∀ t ∈ ec_47, decode cX10_init t.1 = .ok (t.2.1, t.2.2) := by decide +kernel
theorem ee_47 : ec_47.all (fun t => est t.1 t.2.1 1 && elen t.2.1 t.2.2) = true := by decide +kernel
theorem ed_48 : ∀ t ∈ ec_48, decode cX11_init t.1 = .ok (t.2.1, t.2.2) := by decide +kernel
theorem ee_48 : ec_48.all (fun t => est t.1 t.2.1 2 && elen t.2.1 t.2.2) = true := by decide +kernel
