theorem vcl_1_27 (NF : State → Prop) : pCL NF 1 (27, 0, 304, 2) := fun hN _ q hq => by
  have hq2 : gMT 304 = some q := hq
  cases (show gMT 304 = some (gm_304, 4) from rfl).symm.trans hq2
  exact ⟨yJ7_fill_53178, cJ7_fill_53178, none, vm_304, ⟨by decide +kernel, Or.inl ⟨rfl, tbT 199 (by decide +kernel) rfl, tbT 200 (by decide +kernel) rfl⟩⟩, fun h => absurd h (by decide)⟩
theorem vcl_1_49 (NF : State → Prop) : pCL NF 1 (49, 7, 0, 5) := fun _ h => absurd h (by decide)
theorem vcl_1_55 (NF : State → Prop) : pCL NF 1 (55, 3, 132, 2) := fun hN _ q hq => by
  have hq2 : gMT 132 = some q := hq
  cases (show gMT 132 = some (gm_132, 2) from rfl).symm.trans hq2
  exact ⟨yX11_has, cX11_has, (some .boolean), vm_132, ⟨by decide +kernel, Or.inr (Or.inr (Or.inr (Or.inl ⟨rfl, ⟨"WardrobeRow", fun s h => hN s h _ (List.mem_of_getElem? (i := 0) rfl)⟩, tbT 638 (by decide +kernel) rfl⟩)))⟩, fun h => absurd h (by decide)⟩
theorem vcl_1_59 (NF : State → Prop) : pCL NF 1 (59, 3, 115, 1) := fun hN _ q hq => by
  have hq2 : gMT 115 = some q := hq
  cases (show gMT 115 = some (gm_115, 1) from rfl).symm.trans hq2
  exact ⟨yX11_bit, cX11_bit, (some .int), vm_115, ⟨by decide +kernel, Or.inr (Or.inr (Or.inr (Or.inl ⟨rfl, ⟨"WardrobeRow", fun s h => hN s h _ (List.mem_of_getElem? (i := 1) rfl)⟩, tbT 631 (by decide +kernel) rfl⟩)))⟩, fun h => absurd h (by decide)⟩
theorem vcl_1_63 (NF : State → Prop) : pCL NF 1 (63, 3, 136, 2) := fun hN _ q hq => by
  have hq2 : gMT 136 = some q := hq
  cases (show gMT 136 = some (gm_136, 2) from rfl).symm.trans hq2
  exact ⟨yX11_isBelow, cX11_isBelow, (some .boolean), vm_136, ⟨by decide +kernel, Or.inr (Or.inr (Or.inr (Or.inl ⟨rfl, ⟨"WardrobeRow", fun s h => hN s h _ (List.mem_of_getElem? (i := 2) rfl)⟩, tbT 585 (by decide +kernel) rfl⟩)))⟩, fun h => absurd h (by decide)⟩
theorem vcl_1_66 (NF : State → Prop) : pCL NF 1 (66, 1, 16, 2) := fun hN _ q hq => by
  have hq2 : gMT 16 = some q := hq
  cases (show gMT 16 = some (gm_16, 2) from rfl).symm.trans hq2
  exact ⟨yX1_lives, cX1_lives, (some .boolean), vm_16, ⟨by decide +kernel, Or.inr (Or.inl ⟨rfl, tbT 781 (by decide +kernel) rfl, tbT 717 (by decide +kernel) rfl, tbT 718 (by decide +kernel) rfl⟩)⟩, fun _ => ⟨TX1, 10, rfl⟩⟩
theorem vcl_1_70 (NF : State → Prop) : pCL NF 1 (70, 1, 78, 3) := fun hN _ q hq => by
  have hq2 : gMT 78 = some q := hq
  cases (show gMT 78 = some (gm_78, 5) from rfl).symm.trans hq2
  exact ⟨yX8_around, cX8_around, (some .int), vm_78, ⟨by decide +kernel, Or.inr (Or.inl ⟨rfl, tbT 782 (by decide +kernel) rfl, tbT 634 (by decide +kernel) rfl, tbT 635 (by decide +kernel) rfl⟩)⟩, fun _ => ⟨TX8, 10, rfl⟩⟩
theorem vcl_1_76 (NF : State → Prop) : pCL NF 1 (76, 1, 15, 3) := fun hN _ q hq => by
  have hq2 : gMT 15 = some q := hq
  cases (show gMT 15 = some (gm_15, 4) from rfl).symm.trans hq2
  exact ⟨yX1_hasLeave, cX1_hasLeave, (some .boolean), vm_15, ⟨by decide +kernel, Or.inr (Or.inl ⟨rfl, tbT 783 (by decide +kernel) rfl, tbT 784 (by decide +kernel) rfl, tbT 785 (by decide +kernel) rfl⟩)⟩, fun _ => ⟨TX1, 10, rfl⟩⟩
theorem vcl_1_79 (NF : State → Prop) : pCL NF 1 (79, 1, 24, 2) := fun hN _ q hq => by
  have hq2 : gMT 24 = some q := hq
  cases (show gMT 24 = some (gm_24, 4) from rfl).symm.trans hq2
  exact ⟨yX1_successorOf, cX1_successorOf, (some .int), vm_24, ⟨by decide +kernel, Or.inr (Or.inl ⟨rfl, tbT 839 (by decide +kernel) rfl, tbT 840 (by decide +kernel) rfl, tbT 841 (by decide +kernel) rfl⟩)⟩, fun _ => ⟨TX1, 10, rfl⟩⟩
theorem vcl_1_85 (NF : State → Prop) : pCL NF 1 (85, 1, 12, 2) := fun hN _ q hq => by
  have hq2 : gMT 12 = some q := hq
  cases (show gMT 12 = some (gm_12, 4) from rfl).symm.trans hq2
  exact ⟨yX1_endLife, cX1_endLife, (some .int), vm_12, ⟨by decide +kernel, Or.inr (Or.inl ⟨rfl, tbT 859 (by decide +kernel) rfl, tbT 836 (by decide +kernel) rfl, tbT 837 (by decide +kernel) rfl⟩)⟩, fun _ => ⟨TX1, 10, rfl⟩⟩
theorem vcl_1_88 (NF : State → Prop) : pCL NF 1 (88, 1, 21, 2) := fun hN _ q hq => by
  have hq2 : gMT 21 = some q := hq
  cases (show gMT 21 = some (gm_21, 3) from rfl).symm.trans hq2
  exact ⟨yX1_setFire, cX1_setFire, (some .int), vm_21, ⟨by decide +kernel, Or.inr (Or.inl ⟨rfl, tbT 868 (by decide +kernel) rfl, tbT 856 (by decide +kernel) rfl, tbT 857 (by decide +kernel) rfl⟩)⟩, fun _ => ⟨TX1, 10, rfl⟩⟩
theorem vcl_1 (NF : State → Prop) : ∀ x ∈ gcl__1, pCL NF 1 x := List.forall_mem_cons.mpr ⟨(vcl_1_27 NF), List.forall_mem_cons.mpr ⟨(vcl_1_49 NF), List.forall_mem_cons.mpr ⟨(vcl_1_55 NF), List.forall_mem_cons.mpr ⟨(vcl_1_59 NF), List.forall_mem_cons.mpr ⟨(vcl_1_63 NF), List.forall_mem_cons.mpr ⟨(vcl_1_66 NF), List.forall_mem_cons.mpr ⟨(vcl_1_70 NF), List.forall_mem_cons.mpr ⟨(vcl_1_76 NF), List.forall_mem_cons.mpr ⟨(vcl_1_79 NF), List.forall_mem_cons.mpr ⟨(vcl_1_85 NF), List.forall_mem_cons.mpr ⟨(vcl_1_88 NF), fun _ h => absurd h List.not_mem_nil⟩⟩⟩⟩⟩⟩⟩⟩⟩⟩⟩
theorem vcl_2_16 (NF : State → Prop) : pCL NF 2 (16, 1, 87, 2) := fun hN _ q hq => by
  have hq2 : gMT 87 = some q := hq
  cases (show gMT 87 = some (gm_87, 2) from rfl).symm.trans hq2
  exact ⟨yX8_manyOf, cX8_manyOf, (some .int), vm_87, ⟨by decide +kernel, Or.inr (Or.inl ⟨rfl, tbT 885 (by decide +kernel) rfl, tbT 581 (by decide +kernel) rfl, tbT 582 (by decide +kernel) rfl⟩)⟩, fun _ => ⟨TX8, 10, rfl⟩⟩
theorem vcl_2_22 (NF : State → Prop) : pCL NF 2 (22, 1, 16, 2) := fun hN _ q hq => by
  have hq2 : gMT 16 = some q := hq
  cases (show gMT 16 = some (gm_16, 2) from rfl).symm.trans hq2
  exact ⟨yX1_lives, cX1_lives, (some .boolean), vm_16, ⟨by decide +kernel, Or.inr (Or.inl ⟨rfl, tbT 886 (by decide +kernel) rfl, tbT 717 (by decide +kernel) rfl, tbT 718 (by decide +kernel) rfl⟩)⟩, fun _ => ⟨TX1, 10, rfl⟩⟩
theorem vcl_2_28 (NF : State → Prop) : pCL NF 2 (28, 1, 26, 4) := fun hN _ q hq => by
  have hq2 : gMT 26 = some q := hq
  cases (show gMT 26 = some (gm_26, 9) from rfl).symm.trans hq2
  exact ⟨yX2_doDrawn, cX2_doDrawn, none, vm_26, ⟨by decide +kernel, Or.inr (Or.inl ⟨rfl, tbT 887 (by decide +kernel) rfl, tbT 889 (by decide +kernel) rfl, tbS (n := 1) 18 (by decide +kernel) rfl⟩)⟩, fun _ => ⟨TX2, 1, rfl⟩⟩
theorem vcl_2_32 (NF : State → Prop) : pCL NF 2 (32, 1, 27, 2) := fun hN _ q hq => by
  have hq2 : gMT 27 = some q := hq
  cases (show gMT 27 = some (gm_27, 2) from rfl).symm.trans hq2
  exact ⟨yX2_draw, cX2_draw, (some .int), vm_27, ⟨by decide +kernel, Or.inr (Or.inl ⟨rfl, tbT 891 (by decide +kernel) rfl, tbT 893 (by decide +kernel) rfl, tbS (n := 1) 19 (by decide +kernel) rfl⟩)⟩, fun _ => ⟨TX2, 1, rfl⟩⟩
theorem vcl_2_35 (NF : State → Prop) : pCL NF 2 (35, 1, 21, 2) := fun hN _ q hq => by
  have hq2 : gMT 21 = some q := hq
  cases (show gMT 21 = some (gm_21, 3) from rfl).symm.trans hq2
  exact ⟨yX1_setFire, cX1_setFire, (some .int), vm_21, ⟨by decide +kernel, Or.inr (Or.inl ⟨rfl, tbT 899 (by decide +kernel) rfl, tbT 856 (by decide +kernel) rfl, tbT 857 (by decide +kernel) rfl⟩)⟩, fun _ => ⟨TX1, 10, rfl⟩⟩
theorem vcl_2_38 (NF : State → Prop) : pCL NF 2 (38, 1, 17, 3) := fun hN _ q hq => by
  have hq2 : gMT 17 = some q := hq
  cases (show gMT 17 = some (gm_17, 6) from rfl).symm.trans hq2
  exact ⟨yX1_passMinutes, cX1_passMinutes, (some .int), vm_17, ⟨by decide +kernel, Or.inr (Or.inl ⟨rfl, tbT 900 (by decide +kernel) rfl, tbT 865 (by decide +kernel) rfl, tbT 866 (by decide +kernel) rfl⟩)⟩, fun _ => ⟨TX1, 10, rfl⟩⟩
theorem vcl_2_42 (NF : State → Prop) : pCL NF 2 (42, 1, 14, 4) := fun hN _ q hq => by
  have hq2 : gMT 14 = some q := hq
  cases (show gMT 14 = some (gm_14, 5) from rfl).symm.trans hq2
  exact ⟨yX1_goTo, cX1_goTo, (some .int), vm_14, ⟨by decide +kernel, Or.inr (Or.inl ⟨rfl, tbT 896 (by decide +kernel) rfl, tbT 778 (by decide +kernel) rfl, tbT 779 (by decide +kernel) rfl⟩)⟩, fun _ => ⟨TX1, 10, rfl⟩⟩
theorem vcl_2_46 (NF : State → Prop) : pCL NF 2 (46, 1, 22, 4) := fun hN _ q hq => by
  have hq2 : gMT 22 = some q := hq
  cases (show gMT 22 = some (gm_22, 4) from rfl).symm.trans hq2
  exact ⟨yX1_setLeave, cX1_setLeave, (some .int), vm_22, ⟨by decide +kernel, Or.inr (Or.inl ⟨rfl, tbT 897 (by decide +kernel) rfl, tbT 820 (by decide +kernel) rfl, tbT 821 (by decide +kernel) rfl⟩)⟩, fun _ => ⟨TX1, 10, rfl⟩⟩
theorem vcl_2_50 (NF : State → Prop) : pCL NF 2 (50, 1, 20, 4) := fun hN _ q hq => by
  have hq2 : gMT 20 = some q := hq
  cases (show gMT 20 = some (gm_20, 4) from rfl).symm.trans hq2
  exact ⟨yX1_sellTo, cX1_sellTo, (some .int), vm_20, ⟨by decide +kernel, Or.inr (Or.inl ⟨rfl, tbT 898 (by decide +kernel) rfl, tbT 809 (by decide +kernel) rfl, tbT 810 (by decide +kernel) rfl⟩)⟩, fun _ => ⟨TX1, 10, rfl⟩⟩
theorem vcl_2 (NF : State → Prop) : ∀ x ∈ gcl__2, pCL NF 2 x := List.forall_mem_cons.mpr ⟨(vcl_2_16 NF), List.forall_mem_cons.mpr ⟨(vcl_2_22 NF), List.forall_mem_cons.mpr ⟨(vcl_2_28 NF), List.forall_mem_cons.mpr ⟨(vcl_2_32 NF), List.forall_mem_cons.mpr ⟨(vcl_2_35 NF), List.forall_mem_cons.mpr ⟨(vcl_2_38 NF), List.forall_mem_cons.mpr ⟨(vcl_2_42 NF), List.forall_mem_cons.mpr ⟨(vcl_2_46 NF), List.forall_mem_cons.mpr ⟨(vcl_2_50 NF), fun _ h => absurd h List.not_mem_nil⟩⟩⟩⟩⟩⟩⟩⟩⟩
theorem vcl_3_27 (NF : State → Prop) : pCL NF 3 (27, 1, 78, 3) := fun hN _ q hq => by
  have hq2 : gMT 78 = some q := hq
  cases (show gMT 78 = some (gm_78, 5) from rfl).symm.trans hq2
  exact ⟨yX8_around, cX8_around, (some .int), vm_78, ⟨by decide +kernel, Or.inr (Or.inl ⟨rfl, tbT 1004 (by decide +kernel) rfl, tbT 634 (by decide +kernel) rfl, tbT 635 (by decide +kernel) rfl⟩)⟩, fun _ => ⟨TX8, 10, rfl⟩⟩
theorem vcl_3_33 (NF : State → Prop) : pCL NF 3 (33, 3, 132, 2) := fun hN _ q hq => by
  have hq2 : gMT 132 = some q := hq
  cases (show gMT 132 = some (gm_132, 2) from rfl).symm.trans hq2
  exact ⟨yX11_has, cX11_has, (some .boolean), vm_132, ⟨by decide +kernel, Or.inr (Or.inr (Or.inr (Or.inl ⟨rfl, ⟨"WardrobeRow", fun s h => hN s h _ (List.mem_of_getElem? (i := 3) rfl)⟩, tbT 638 (by decide +kernel) rfl⟩)))⟩, fun h => absurd h (by decide)⟩
theorem vcl_3_37 (NF : State → Prop) : pCL NF 3 (37, 0, 304, 2) := fun hN _ q hq => by
  have hq2 : gMT 304 = some q := hq
  cases (show gMT 304 = some (gm_304, 4) from rfl).symm.trans hq2
  exact ⟨yJ7_fill_53178, cJ7_fill_53178, none, vm_304, ⟨by decide +kernel, Or.inl ⟨rfl, tbT 1021 (by decide +kernel) rfl, tbT 200 (by decide +kernel) rfl⟩⟩, fun h => absurd h (by decide)⟩
theorem vcl_3_43 (NF : State → Prop) : pCL NF 3 (43, 1, 31, 4) := fun hN _ q hq => by
  have hq2 : gMT 31 = some q := hq
  cases (show gMT 31 = some (gm_31, 12) from rfl).symm.trans hq2
  exact ⟨yX3_findsWay, cX3_findsWay, (some .boolean), vm_31, ⟨by decide +kernel, Or.inr (Or.inl ⟨rfl, tbT 1022 (by decide +kernel) rfl, tbT 1024 (by decide +kernel) rfl, tbS (n := 2) 25 (by decide +kernel) rfl⟩)⟩, fun _ => ⟨TX3, 2, rfl⟩⟩
theorem vcl_3_47 (NF : State → Prop) : pCL NF 3 (47, 1, 33, 4) := fun hN _ q hq => by
  have hq2 : gMT 33 = some q := hq
  cases (show gMT 33 = some (gm_33, 8) from rfl).symm.trans hq2
  exact ⟨yX3_takeWay, cX3_takeWay, none, vm_33, ⟨by decide +kernel, Or.inr (Or.inl ⟨rfl, tbT 1027 (by decide +kernel) rfl, tbT 1029 (by decide +kernel) rfl, tbS (n := 2) 26 (by decide +kernel) rfl⟩)⟩, fun _ => ⟨TX3, 2, rfl⟩⟩
theorem vcl_3_63 (NF : State → Prop) : pCL NF 3 (63, 3, 115, 1) := fun hN _ q hq => by
  have hq2 : gMT 115 = some q := hq
  cases (show gMT 115 = some (gm_115, 1) from rfl).symm.trans hq2
  exact ⟨yX11_bit, cX11_bit, (some .int), vm_115, ⟨by decide +kernel, Or.inr (Or.inr (Or.inr (Or.inl ⟨rfl, ⟨"WardrobeRow", fun s h => hN s h _ (List.mem_of_getElem? (i := 4) rfl)⟩, tbT 631 (by decide +kernel) rfl⟩)))⟩, fun h => absurd h (by decide)⟩
theorem vcl_3 (NF : State → Prop) : ∀ x ∈ gcl__3, pCL NF 3 x := List.forall_mem_cons.mpr ⟨(vcl_3_27 NF), List.forall_mem_cons.mpr ⟨(vcl_3_33 NF), List.forall_mem_cons.mpr ⟨(vcl_3_37 NF), List.forall_mem_cons.mpr ⟨(vcl_3_43 NF), List.forall_mem_cons.mpr ⟨(vcl_3_47 NF), List.forall_mem_cons.mpr ⟨(vcl_3_63 NF), fun _ h => absurd h List.not_mem_nil⟩⟩⟩⟩⟩⟩
theorem vcl_4_34 (NF : State → Prop) : pCL NF 4 (34, 0, 304, 2) := fun hN _ q hq => by
  have hq2 : gMT 304 = some q := hq
  cases (show gMT 304 = some (gm_304, 4) from rfl).symm.trans hq2
  exact ⟨yJ7_fill_53178, cJ7_fill_53178, none, vm_304, ⟨by decide +kernel, Or.inl ⟨rfl, tbT 1039 (by decide +kernel) rfl, tbT 200 (by decide +kernel) rfl⟩⟩, fun h => absurd h (by decide)⟩
theorem vcl_4_40 (NF : State → Prop) : pCL NF 4 (40, 1, 38, 3) := fun hN _ q hq => by
  have hq2 : gMT 38 = some q := hq
  cases (show gMT 38 = some (gm_38, 5) from rfl).symm.trans hq2
  exact ⟨yX4_gather, cX4_gather, none, vm_38, ⟨by decide +kernel, Or.inr (Or.inl ⟨rfl, tbT 1040 (by decide +kernel) rfl, tbT 1042 (by decide +kernel) rfl, tbS (n := 8) 27 (by decide +kernel) rfl⟩)⟩, fun _ => ⟨TX4, 8, rfl⟩⟩
theorem vcl_4_44 (NF : State → Prop) : pCL NF 4 (44, 3, 136, 2) := fun hN _ q hq => by
  have hq2 : gMT 136 = some q := hq
  cases (show gMT 136 = some (gm_136, 2) from rfl).symm.trans hq2
  exact ⟨yX11_isBelow, cX11_isBelow, (some .boolean), vm_136, ⟨by decide +kernel, Or.inr (Or.inr (Or.inr (Or.inl ⟨rfl, ⟨"WardrobeRow", fun s h => hN s h _ (List.mem_of_getElem? (i := 5) rfl)⟩, tbT 585 (by decide +kernel) rfl⟩)))⟩, fun h => absurd h (by decide)⟩
theorem vcl_4_48 (NF : State → Prop) : pCL NF 4 (48, 1, 39, 4) := fun hN _ q hq => by
  have hq2 : gMT 39 = some q := hq
  cases (show gMT 39 = some (gm_39, 6) from rfl).symm.trans hq2
  exact ⟨yX4_likedMost, cX4_likedMost, (some .int), vm_39, ⟨by decide +kernel, Or.inr (Or.inl ⟨rfl, tbT 1048 (by decide +kernel) rfl, tbT 1050 (by decide +kernel) rfl, tbS (n := 8) 28 (by decide +kernel) rfl⟩)⟩, fun _ => ⟨TX4, 8, rfl⟩⟩
theorem vcl_4_52 (NF : State → Prop) : pCL NF 4 (52, 1, 36, 1) := fun hN _ q hq => by
  have hq2 : gMT 36 = some q := hq
  cases (show gMT 36 = some (gm_36, 4) from rfl).symm.trans hq2
  exact ⟨yX4_closeRings, cX4_closeRings, none, vm_36, ⟨by decide +kernel, Or.inr (Or.inl ⟨rfl, tbT 1053 (by decide +kernel) rfl, tbT 1055 (by decide +kernel) rfl, tbS (n := 8) 29 (by decide +kernel) rfl⟩)⟩, fun _ => ⟨TX4, 8, rfl⟩⟩
theorem vcl_4_55 (NF : State → Prop) : pCL NF 4 (55, 1, 87, 2) := fun hN _ q hq => by
  have hq2 : gMT 87 = some q := hq
  cases (show gMT 87 = some (gm_87, 2) from rfl).symm.trans hq2
  exact ⟨yX8_manyOf, cX8_manyOf, (some .int), vm_87, ⟨by decide +kernel, Or.inr (Or.inl ⟨rfl, tbT 1044 (by decide +kernel) rfl, tbT 581 (by decide +kernel) rfl, tbT 582 (by decide +kernel) rfl⟩)⟩, fun _ => ⟨TX8, 10, rfl⟩⟩
theorem vcl_4_66 (NF : State → Prop) : pCL NF 4 (66, 1, 16, 2) := fun hN _ q hq => by
  have hq2 : gMT 16 = some q := hq
  cases (show gMT 16 = some (gm_16, 2) from rfl).symm.trans hq2
  exact ⟨yX1_lives, cX1_lives, (some .boolean), vm_16, ⟨by decide +kernel, Or.inr (Or.inl ⟨rfl, tbT 1046 (by decide +kernel) rfl, tbT 717 (by decide +kernel) rfl, tbT 718 (by decide +kernel) rfl⟩)⟩, fun _ => ⟨TX1, 10, rfl⟩⟩
theorem vcl_4_73 (NF : State → Prop) : pCL NF 4 (73, 3, 132, 2) := fun hN _ q hq => by
  have hq2 : gMT 132 = some q := hq
  cases (show gMT 132 = some (gm_132, 2) from rfl).symm.trans hq2
  exact ⟨yX11_has, cX11_has, (some .boolean), vm_132, ⟨by decide +kernel, Or.inr (Or.inr (Or.inr (Or.inl ⟨rfl, ⟨"WardrobeRow", fun s h => hN s h _ (List.mem_of_getElem? (i := 6) rfl)⟩, tbT 638 (by decide +kernel) rfl⟩)))⟩, fun h => absurd h (by decide)⟩
theorem vcl_4_76 (NF : State → Prop) : pCL NF 4 (76, 1, 86, 3) := fun hN _ q hq => by
  have hq2 : gMT 86 = some q := hq
  cases (show gMT 86 = some (gm_86, 3) from rfl).symm.trans hq2
  exact ⟨yX8_liking, cX8_liking, (some .int), vm_86, ⟨by decide +kernel, Or.inr (Or.inl ⟨rfl, tbT 1052 (by decide +kernel) rfl, tbT 663 (by decide +kernel) rfl, tbT 664 (by decide +kernel) rfl⟩)⟩, fun _ => ⟨TX8, 10, rfl⟩⟩
theorem vcl_4_80 (NF : State → Prop) : pCL NF 4 (80, 1, 41, 2) := fun hN _ q hq => by
  have hq2 : gMT 41 = some q := hq
  cases (show gMT 41 = some (gm_41, 5) from rfl).symm.trans hq2
  exact ⟨yX4_ringOf, cX4_ringOf, (some .int), vm_41, ⟨by decide +kernel, Or.inr (Or.inl ⟨rfl, tbT 1057 (by decide +kernel) rfl, tbT 1059 (by decide +kernel) rfl, tbS (n := 8) 30 (by decide +kernel) rfl⟩)⟩, fun _ => ⟨TX4, 8, rfl⟩⟩
theorem vcl_4_83 (NF : State → Prop) : pCL NF 4 (83, 0, 299, 1) := fun hN _ q hq => by
  have hq2 : gMT 299 = some q := hq
  cases (show gMT 299 = some (gm_299, 1) from rfl).symm.trans hq2
  exact ⟨yJ6_bitCount_0f7a4, cJ6_bitCount_0f7a4, (some .int), vm_299, ⟨by decide +kernel, Or.inl ⟨rfl, tbT 1062 (by decide +kernel) rfl, tbT 752 (by decide +kernel) rfl⟩⟩, fun h => absurd h (by decide)⟩
theorem vcl_4_88 (NF : State → Prop) : pCL NF 4 (88, 3, 115, 1) := fun hN _ q hq => by
  have hq2 : gMT 115 = some q := hq
  cases (show gMT 115 = some (gm_115, 1) from rfl).symm.trans hq2
  exact ⟨yX11_bit, cX11_bit, (some .int), vm_115, ⟨by decide +kernel, Or.inr (Or.inr (Or.inr (Or.inl ⟨rfl, ⟨"WardrobeRow", fun s h => hN s h _ (List.mem_of_getElem? (i := 7) rfl)⟩, tbT 631 (by decide +kernel) rfl⟩)))⟩, fun h => absurd h (by decide)⟩
theorem vcl_4_95 (NF : State → Prop) : pCL NF 4 (95, 1, 35, 3) := fun hN _ q hq => by
  have hq2 : gMT 35 = some q := hq
  cases (show gMT 35 = some (gm_35, 4) from rfl).symm.trans hq2
  exact ⟨yX4_choose, cX4_choose, none, vm_35, ⟨by decide +kernel, Or.inr (Or.inl ⟨rfl, tbT 1075 (by decide +kernel) rfl, tbT 1077 (by decide +kernel) rfl, tbS (n := 8) 31 (by decide +kernel) rfl⟩)⟩, fun _ => ⟨TX4, 8, rfl⟩⟩
theorem vcl_4_98 (NF : State → Prop) : pCL NF 4 (98, 1, 40, 1) := fun hN _ q hq => by
  have hq2 : gMT 40 = some q := hq
  cases (show gMT 40 = some (gm_40, 5) from rfl).symm.trans hq2
  exact ⟨yX4_raisePrices, cX4_raisePrices, (some .boolean), vm_40, ⟨by decide +kernel, Or.inr (Or.inl ⟨rfl, tbT 1083 (by decide +kernel) rfl, tbT 1085 (by decide +kernel) rfl, tbS (n := 8) 33 (by decide +kernel) rfl⟩)⟩, fun _ => ⟨TX4, 8, rfl⟩⟩
theorem vcl_4_102 (NF : State → Prop) : pCL NF 4 (102, 1, 34, 4) := fun hN _ q hq => by
  have hq2 : gMT 34 = some q := hq
  cases (show gMT 34 = some (gm_34, 8) from rfl).symm.trans hq2
  exact ⟨yX4_bestBuy, cX4_bestBuy, (some .int), vm_34, ⟨by decide +kernel, Or.inr (Or.inl ⟨rfl, tbT 1079 (by decide +kernel) rfl, tbT 1081 (by decide +kernel) rfl, tbS (n := 8) 32 (by decide +kernel) rfl⟩)⟩, fun _ => ⟨TX4, 8, rfl⟩⟩
theorem vcl_4 (NF : State → Prop) : ∀ x ∈ gcl__4, pCL NF 4 x := List.forall_mem_cons.mpr ⟨(vcl_4_34 NF), List.forall_mem_cons.mpr ⟨(vcl_4_40 NF), List.forall_mem_cons.mpr ⟨(vcl_4_44 NF), List.forall_mem_cons.mpr ⟨(vcl_4_48 NF), List.forall_mem_cons.mpr ⟨(vcl_4_52 NF), List.forall_mem_cons.mpr ⟨(vcl_4_55 NF), List.forall_mem_cons.mpr ⟨(vcl_4_66 NF), List.forall_mem_cons.mpr ⟨(vcl_4_73 NF), List.forall_mem_cons.mpr ⟨(vcl_4_76 NF), List.forall_mem_cons.mpr ⟨(vcl_4_80 NF), List.forall_mem_cons.mpr ⟨(vcl_4_83 NF), List.forall_mem_cons.mpr ⟨(vcl_4_88 NF), List.forall_mem_cons.mpr ⟨(vcl_4_95 NF), List.forall_mem_cons.mpr ⟨(vcl_4_98 NF), List.forall_mem_cons.mpr ⟨(vcl_4_102 NF), fun _ h => absurd h List.not_mem_nil⟩⟩⟩⟩⟩⟩⟩⟩⟩⟩⟩⟩⟩⟩⟩
theorem vcl_5_25 (NF : State → Prop) : pCL NF 5 (25, 0, 301, 2) := fun hN _ q hq => by
  have hq2 : gMT 301 = some q := hq
  cases (show gMT 301 = some (gm_301, 3) from rfl).symm.trans hq2
  exact ⟨yJ9_floorMod_7cf53, cJ9_floorMod_7cf53, (some .int), vm_301, ⟨by decide +kernel, Or.inl ⟨rfl, tbT 773 (by decide +kernel) rfl, tbT 774 (by decide +kernel) rfl⟩⟩, fun h => absurd h (by decide)⟩
theorem vcl_5_31 (NF : State → Prop) : pCL NF 5 (31, 1, 45, 1) := fun hN _ q hq => by
  have hq2 : gMT 45 = some q := hq
  cases (show gMT 45 = some (gm_45, 1) from rfl).symm.trans hq2
  exact ⟨yX5_newest, cX5_newest, (some (.object "WardrobeRow$Deeds")), vm_45, ⟨by decide +kernel, Or.inr (Or.inl ⟨rfl, tbT 769 (by decide +kernel) rfl, tbT 771 (by decide +kernel) rfl, tbS (n := 3) 15 (by decide +kernel) rfl⟩)⟩, fun _ => ⟨TX5, 3, rfl⟩⟩
theorem vcl_5_35 (NF : State → Prop) : pCL NF 5 (35, 1, 11, 2) := fun hN _ q hq => by
  have hq2 : gMT 11 = some q := hq
  cases (show gMT 11 = some (gm_11, 2) from rfl).symm.trans hq2
  exact ⟨yX1_copyFrom, cX1_copyFrom, none, vm_11, ⟨by decide +kernel, Or.inr (Or.inl ⟨rfl, tbT 776 (by decide +kernel) rfl, tbT 690 (by decide +kernel) rfl, tbT 691 (by decide +kernel) rfl⟩)⟩, fun _ => ⟨TX1, 10, rfl⟩⟩
theorem vcl_5 (NF : State → Prop) : ∀ x ∈ gcl__5, pCL NF 5 x := List.forall_mem_cons.mpr ⟨(vcl_5_25 NF), List.forall_mem_cons.mpr ⟨(vcl_5_31 NF), List.forall_mem_cons.mpr ⟨(vcl_5_35 NF), fun _ h => absurd h List.not_mem_nil⟩⟩⟩
theorem vcl_6_28 (NF : State → Prop) : pCL NF 6 (28, 7, 0, 5) := fun _ h => absurd h (by decide)
theorem vcl_6_34 (NF : State → Prop) : pCL NF 6 (34, 1, 50, 1) := fun hN _ q hq => by
  have hq2 : gMT 50 = some q := hq
  cases (show gMT 50 = some (gm_50, 1) from rfl).symm.trans hq2
  exact ⟨yX6_forget, cX6_forget, none, vm_50, ⟨by decide +kernel, Or.inr (Or.inl ⟨rfl, tbT 1201 (by decide +kernel) rfl, tbT 695 (by decide +kernel) rfl, tbT 696 (by decide +kernel) rfl⟩)⟩, fun _ => ⟨TX6, 5, rfl⟩⟩
theorem vcl_6_37 (NF : State → Prop) : pCL NF 6 (37, 1, 62, 2) := fun hN _ q hq => by
  have hq2 : gMT 62 = some q := hq
  cases (show gMT 62 = some (gm_62, 2) from rfl).symm.trans hq2
  exact ⟨yX7_begin, cX7_begin, none, vm_62, ⟨by decide +kernel, Or.inr (Or.inl ⟨rfl, tbT 1202 (by decide +kernel) rfl, tbT 532 (by decide +kernel) rfl, tbT 533 (by decide +kernel) rfl⟩)⟩, fun _ => ⟨TX7, 11, rfl⟩⟩
theorem vcl_6_43 (NF : State → Prop) : pCL NF 6 (43, 1, 52, 4) := fun hN _ q hq => by
  have hq2 : gMT 52 = some q := hq
  cases (show gMT 52 = some (gm_52, 8) from rfl).symm.trans hq2
  exact ⟨yX6_readCond, cX6_readCond, (some .boolean), vm_52, ⟨by decide +kernel, Or.inr (Or.inl ⟨rfl, tbT 1203 (by decide +kernel) rfl, tbT 1205 (by decide +kernel) rfl, tbS (n := 5) 44 (by decide +kernel) rfl⟩)⟩, fun _ => ⟨TX6, 5, rfl⟩⟩
theorem vcl_6_50 (NF : State → Prop) : pCL NF 6 (50, 1, 65, 2) := fun hN _ q hq => by
  have hq2 : gMT 65 = some q := hq
  cases (show gMT 65 = some (gm_65, 2) from rfl).symm.trans hq2
  exact ⟨yX7_fail, cX7_fail, (some .boolean), vm_65, ⟨by decide +kernel, Or.inr (Or.inl ⟨rfl, tbT 1213 (by decide +kernel) rfl, tbT 592 (by decide +kernel) rfl, tbT 593 (by decide +kernel) rfl⟩)⟩, fun _ => ⟨TX7, 11, rfl⟩⟩
theorem vcl_6_54 (NF : State → Prop) : pCL NF 6 (54, 1, 55, 4) := fun hN _ q hq => by
  have hq2 : gMT 55 = some q := hq
  cases (show gMT 55 = some (gm_55, 7) from rfl).symm.trans hq2
  exact ⟨yX6_readOne, cX6_readOne, (some .boolean), vm_55, ⟨by decide +kernel, Or.inr (Or.inl ⟨rfl, tbT 1207 (by decide +kernel) rfl, tbT 1209 (by decide +kernel) rfl, tbS (n := 5) 45 (by decide +kernel) rfl⟩)⟩, fun _ => ⟨TX6, 5, rfl⟩⟩
theorem vcl_6_57 (NF : State → Prop) : pCL NF 6 (57, 1, 69, 1) := fun hN _ q hq => by
  have hq2 : gMT 69 = some q := hq
  cases (show gMT 69 = some (gm_69, 1) from rfl).symm.trans hq2
  exact ⟨yX7_keyword, cX7_keyword, (some .int), vm_69, ⟨by decide +kernel, Or.inr (Or.inl ⟨rfl, tbT 1212 (by decide +kernel) rfl, tbT 569 (by decide +kernel) rfl, tbT 570 (by decide +kernel) rfl⟩)⟩, fun _ => ⟨TX7, 11, rfl⟩⟩
theorem vcl_6_61 (NF : State → Prop) : pCL NF 6 (61, 1, 48, 3) := fun hN _ q hq => by
  have hq2 : gMT 48 = some q := hq
  cases (show gMT 48 = some (gm_48, 3) from rfl).symm.trans hq2
  exact ⟨yX6_addWord, cX6_addWord, none, vm_48, ⟨by decide +kernel, Or.inr (Or.inl ⟨rfl, tbT 1216 (by decide +kernel) rfl, tbT 1218 (by decide +kernel) rfl, tbS (n := 5) 46 (by decide +kernel) rfl⟩)⟩, fun _ => ⟨TX6, 5, rfl⟩⟩
theorem vcl_6_65 (NF : State → Prop) : pCL NF 6 (65, 1, 60, 1) := fun hN _ q hq => by
  have hq2 : gMT 60 = some q := hq
  cases (show gMT 60 = some (gm_60, 2) from rfl).symm.trans hq2
  exact ⟨yX7_advance, cX7_advance, none, vm_60, ⟨by decide +kernel, Or.inr (Or.inl ⟨rfl, tbT 1214 (by decide +kernel) rfl, tbT 536 (by decide +kernel) rfl, tbT 537 (by decide +kernel) rfl⟩)⟩, fun _ => ⟨TX7, 11, rfl⟩⟩
theorem vcl_6_68 (NF : State → Prop) : pCL NF 6 (68, 1, 68, 2) := fun hN _ q hq => by
  have hq2 : gMT 68 = some q := hq
  cases (show gMT 68 = some (gm_68, 2) from rfl).symm.trans hq2
  exact ⟨yX7_isSign, cX7_isSign, (some .boolean), vm_68, ⟨by decide +kernel, Or.inr (Or.inl ⟨rfl, tbT 1211 (by decide +kernel) rfl, tbT 679 (by decide +kernel) rfl, tbT 680 (by decide +kernel) rfl⟩)⟩, fun _ => ⟨TX7, 11, rfl⟩⟩
theorem vcl_6_71 (NF : State → Prop) : pCL NF 6 (71, 1, 74, 2) := fun hN _ q hq => by
  have hq2 : gMT 74 = some q := hq
  cases (show gMT 74 = some (gm_74, 2) from rfl).symm.trans hq2
  exact ⟨yX7_takeSign, cX7_takeSign, (some .boolean), vm_74, ⟨by decide +kernel, Or.inr (Or.inl ⟨rfl, tbT 1215 (by decide +kernel) rfl, tbT 675 (by decide +kernel) rfl, tbT 676 (by decide +kernel) rfl⟩)⟩, fun _ => ⟨TX7, 11, rfl⟩⟩
theorem vcl_6_74 (NF : State → Prop) : pCL NF 6 (74, 1, 75, 3) := fun hN _ q hq => by
  have hq2 : gMT 75 = some q := hq
  cases (show gMT 75 = some (gm_75, 4) from rfl).symm.trans hq2
  exact ⟨yX7_toldName, cX7_toldName, (some .int), vm_75, ⟨by decide +kernel, Or.inr (Or.inl ⟨rfl, tbT 1220 (by decide +kernel) rfl, tbT 616 (by decide +kernel) rfl, tbT 617 (by decide +kernel) rfl⟩)⟩, fun _ => ⟨TX7, 11, rfl⟩⟩
theorem vcl_6_78 (NF : State → Prop) : pCL NF 6 (78, 1, 54, 4) := fun hN _ q hq => by
  have hq2 : gMT 54 = some q := hq
  cases (show gMT 54 = some (gm_54, 4) from rfl).symm.trans hq2
  exact ⟨yX6_readName, cX6_readName, (some .boolean), vm_54, ⟨by decide +kernel, Or.inr (Or.inl ⟨rfl, tbT 1221 (by decide +kernel) rfl, tbT 1223 (by decide +kernel) rfl, tbS (n := 5) 47 (by decide +kernel) rfl⟩)⟩, fun _ => ⟨TX6, 5, rfl⟩⟩
theorem vcl_6_82 (NF : State → Prop) : pCL NF 6 (82, 1, 53, 3) := fun hN _ q hq => by
  have hq2 : gMT 53 = some q := hq
  cases (show gMT 53 = some (gm_53, 5) from rfl).symm.trans hq2
  exact ⟨yX6_readMeasure, cX6_readMeasure, (some .boolean), vm_53, ⟨by decide +kernel, Or.inr (Or.inl ⟨rfl, tbT 1225 (by decide +kernel) rfl, tbT 1227 (by decide +kernel) rfl, tbS (n := 5) 48 (by decide +kernel) rfl⟩)⟩, fun _ => ⟨TX6, 5, rfl⟩⟩
theorem vcl_6_89 (NF : State → Prop) : pCL NF 6 (89, 1, 71, 3) := fun hN _ q hq => by
  have hq2 : gMT 71 = some q := hq
  cases (show gMT 71 = some (gm_71, 3) from rfl).symm.trans hq2
  exact ⟨yX7_numberWithin, cX7_numberWithin, (some .int), vm_71, ⟨by decide +kernel, Or.inr (Or.inl ⟨rfl, tbT 1229 (by decide +kernel) rfl, tbT 667 (by decide +kernel) rfl, tbT 668 (by decide +kernel) rfl⟩)⟩, fun _ => ⟨TX7, 11, rfl⟩⟩
theorem vcl_6_93 (NF : State → Prop) : pCL NF 6 (93, 0, 58, 4) := fun hN _ q hq => by
  have hq2 : gMT 58 = some q := hq
  cases (show gMT 58 = some (gm_58, 4) from rfl).symm.trans hq2
  exact ⟨yX6_roomsByWord, cX6_roomsByWord, (some .int), vm_58, ⟨by decide +kernel, Or.inl ⟨rfl, tbT 1243 (by decide +kernel) rfl, tbT 1244 (by decide +kernel) rfl⟩⟩, fun h => absurd h (by decide)⟩
theorem vcl_6_97 (NF : State → Prop) : pCL NF 6 (97, 1, 76, 1) := fun hN _ q hq => by
  have hq2 : gMT 76 = some q := hq
  cases (show gMT 76 = some (gm_76, 1) from rfl).symm.trans hq2
  exact ⟨yX8_allRooms, cX8_allRooms, (some .int), vm_76, ⟨by decide +kernel, Or.inr (Or.inl ⟨rfl, tbT 1276 (by decide +kernel) rfl, tbT 727 (by decide +kernel) rfl, tbT 728 (by decide +kernel) rfl⟩)⟩, fun _ => ⟨TX8, 10, rfl⟩⟩
theorem vcl_6_107 (NF : State → Prop) : pCL NF 6 (107, 1, 19, 2) := fun hN _ q hq => by
  have hq2 : gMT 19 = some q := hq
  cases (show gMT 19 = some (gm_19, 4) from rfl).symm.trans hq2
  exact ⟨yX1_roomsOf, cX1_roomsOf, (some .int), vm_19, ⟨by decide +kernel, Or.inr (Or.inl ⟨rfl, tbT 1246 (by decide +kernel) rfl, tbT 722 (by decide +kernel) rfl, tbT 723 (by decide +kernel) rfl⟩)⟩, fun _ => ⟨TX1, 10, rfl⟩⟩
theorem vcl_6_111 (NF : State → Prop) : pCL NF 6 (111, 1, 90, 2) := fun hN _ q hq => by
  have hq2 : gMT 90 = some q := hq
  cases (show gMT 90 = some (gm_90, 4) from rfl).symm.trans hq2
  exact ⟨yX8_roomsIn, cX8_roomsIn, (some .int), vm_90, ⟨by decide +kernel, Or.inr (Or.inl ⟨rfl, tbT 1247 (by decide +kernel) rfl, tbT 1125 (by decide +kernel) rfl, tbT 1126 (by decide +kernel) rfl⟩)⟩, fun _ => ⟨TX8, 10, rfl⟩⟩
theorem vcl_6_114 (NF : State → Prop) : pCL NF 6 (114, 0, 57, 4) := fun hN _ q hq => by
  have hq2 : gMT 57 = some q := hq
  cases (show gMT 57 = some (gm_57, 10) from rfl).symm.trans hq2
  exact ⟨yX6_roomsByMeasure, cX6_roomsByMeasure, (some .int), vm_57, ⟨by decide +kernel, Or.inl ⟨rfl, tbT 1248 (by decide +kernel) rfl, tbT 1249 (by decide +kernel) rfl⟩⟩, fun h => absurd h (by decide)⟩
theorem vcl_6_117 (NF : State → Prop) : pCL NF 6 (117, 1, 87, 2) := fun hN _ q hq => by
  have hq2 : gMT 87 = some q := hq
  cases (show gMT 87 = some (gm_87, 2) from rfl).symm.trans hq2
  exact ⟨yX8_manyOf, cX8_manyOf, (some .int), vm_87, ⟨by decide +kernel, Or.inr (Or.inl ⟨rfl, tbT 1251 (by decide +kernel) rfl, tbT 581 (by decide +kernel) rfl, tbT 582 (by decide +kernel) rfl⟩)⟩, fun _ => ⟨TX8, 10, rfl⟩⟩
theorem vcl_6_120 (NF : State → Prop) : pCL NF 6 (120, 0, 51, 4) := fun hN _ q hq => by
  have hq2 : gMT 51 = some q := hq
  cases (show gMT 51 = some (gm_51, 4) from rfl).symm.trans hq2
  exact ⟨yX6_measureOf, cX6_measureOf, (some .int), vm_51, ⟨by decide +kernel, Or.inl ⟨rfl, tbT 1252 (by decide +kernel) rfl, tbT 1253 (by decide +kernel) rfl⟩⟩, fun h => absurd h (by decide)⟩
theorem vcl_6_123 (NF : State → Prop) : pCL NF 6 (123, 0, 300, 2) := fun hN _ q hq => by
  have hq2 : gMT 300 = some q := hq
  cases (show gMT 300 = some (gm_300, 2) from rfl).symm.trans hq2
  exact ⟨yJ6_compare_7cf53, cJ6_compare_7cf53, (some .int), vm_300, ⟨by decide +kernel, Or.inl ⟨rfl, tbT 1272 (by decide +kernel) rfl, tbT 1273 (by decide +kernel) rfl⟩⟩, fun h => absurd h (by decide)⟩
theorem vcl_6_128 (NF : State → Prop) : pCL NF 6 (128, 3, 115, 1) := fun hN _ q hq => by
  have hq2 : gMT 115 = some q := hq
  cases (show gMT 115 = some (gm_115, 1) from rfl).symm.trans hq2
  exact ⟨yX11_bit, cX11_bit, (some .int), vm_115, ⟨by decide +kernel, Or.inr (Or.inr (Or.inr (Or.inl ⟨rfl, ⟨"WardrobeRow", fun s h => hN s h _ (List.mem_of_getElem? (i := 8) rfl)⟩, tbT 631 (by decide +kernel) rfl⟩)))⟩, fun h => absurd h (by decide)⟩
theorem vcl_6_131 (NF : State → Prop) : pCL NF 6 (131, 1, 18, 2) := fun hN _ q hq => by
  have hq2 : gMT 18 = some q := hq
  cases (show gMT 18 = some (gm_18, 4) from rfl).symm.trans hq2
  exact ⟨yX1_peopleIn, cX1_peopleIn, (some .int), vm_18, ⟨by decide +kernel, Or.inr (Or.inl ⟨rfl, tbT 1255 (by decide +kernel) rfl, tbT 1256 (by decide +kernel) rfl, tbT 1257 (by decide +kernel) rfl⟩)⟩, fun _ => ⟨TX1, 10, rfl⟩⟩
theorem vcl_6_134 (NF : State → Prop) : pCL NF 6 (134, 0, 299, 1) := fun hN _ q hq => by
  have hq2 : gMT 299 = some q := hq
  cases (show gMT 299 = some (gm_299, 1) from rfl).symm.trans hq2
  exact ⟨yJ6_bitCount_0f7a4, cJ6_bitCount_0f7a4, (some .int), vm_299, ⟨by decide +kernel, Or.inl ⟨rfl, tbT 1259 (by decide +kernel) rfl, tbT 752 (by decide +kernel) rfl⟩⟩, fun h => absurd h (by decide)⟩
theorem vcl_6_137 (NF : State → Prop) : pCL NF 6 (137, 1, 89, 2) := fun hN _ q hq => by
  have hq2 : gMT 89 = some q := hq
  cases (show gMT 89 = some (gm_89, 5) from rfl).symm.trans hq2
  exact ⟨yX8_passagesOf, cX8_passagesOf, (some .int), vm_89, ⟨by decide +kernel, Or.inr (Or.inl ⟨rfl, tbT 1260 (by decide +kernel) rfl, tbT 1261 (by decide +kernel) rfl, tbT 1262 (by decide +kernel) rfl⟩)⟩, fun _ => ⟨TX8, 10, rfl⟩⟩
theorem vcl_6_140 (NF : State → Prop) : pCL NF 6 (140, 1, 92, 2) := fun hN _ q hq => by
  have hq2 : gMT 92 = some q := hq
  cases (show gMT 92 = some (gm_92, 4) from rfl).symm.trans hq2
  exact ⟨yX8_worthOf, cX8_worthOf, (some .int), vm_92, ⟨by decide +kernel, Or.inr (Or.inl ⟨rfl, tbT 1264 (by decide +kernel) rfl, tbT 1265 (by decide +kernel) rfl, tbT 1266 (by decide +kernel) rfl⟩)⟩, fun _ => ⟨TX8, 10, rfl⟩⟩
theorem vcl_6 (NF : State → Prop) : ∀ x ∈ gcl__6, pCL NF 6 x := List.forall_mem_cons.mpr ⟨(vcl_6_28 NF), List.forall_mem_cons.mpr ⟨(vcl_6_34 NF), List.forall_mem_cons.mpr ⟨(vcl_6_37 NF), List.forall_mem_cons.mpr ⟨(vcl_6_43 NF), List.forall_mem_cons.mpr ⟨(vcl_6_50 NF), List.forall_mem_cons.mpr ⟨(vcl_6_54 NF), List.forall_mem_cons.mpr ⟨(vcl_6_57 NF), List.forall_mem_cons.mpr ⟨(vcl_6_61 NF), List.forall_mem_cons.mpr ⟨(vcl_6_65 NF), List.forall_mem_cons.mpr ⟨(vcl_6_68 NF), List.forall_mem_cons.mpr ⟨(vcl_6_71 NF), List.forall_mem_cons.mpr ⟨(vcl_6_74 NF), List.forall_mem_cons.mpr ⟨(vcl_6_78 NF), List.forall_mem_cons.mpr ⟨(vcl_6_82 NF), List.forall_mem_cons.mpr ⟨(vcl_6_89 NF), List.forall_mem_cons.mpr ⟨(vcl_6_93 NF), List.forall_mem_cons.mpr ⟨(vcl_6_97 NF), List.forall_mem_cons.mpr ⟨(vcl_6_107 NF), List.forall_mem_cons.mpr ⟨(vcl_6_111 NF), List.forall_mem_cons.mpr ⟨(vcl_6_114 NF), List.forall_mem_cons.mpr ⟨(vcl_6_117 NF), List.forall_mem_cons.mpr ⟨(vcl_6_120 NF), List.forall_mem_cons.mpr ⟨(vcl_6_123 NF), List.forall_mem_cons.mpr ⟨(vcl_6_128 NF), List.forall_mem_cons.mpr ⟨(vcl_6_131 NF), List.forall_mem_cons.mpr ⟨(vcl_6_134 NF), List.forall_mem_cons.mpr ⟨(vcl_6_137 NF), List.forall_mem_cons.mpr ⟨(vcl_6_140 NF), fun _ h => absurd h List.not_mem_nil⟩⟩⟩⟩⟩⟩⟩⟩⟩⟩⟩⟩⟩⟩⟩⟩⟩⟩⟩⟩⟩⟩⟩⟩⟩⟩⟩⟩
theorem vcl_7_39 (NF : State → Prop) : pCL NF 7 (39, 0, 64, 2) := fun hN _ q hq => by
  have hq2 : gMT 64 = some q := hq
  cases (show gMT 64 = some (gm_64, 3) from rfl).symm.trans hq2
  exact ⟨yX7_codeWith, cX7_codeWith, (some .long), vm_64, ⟨by decide +kernel, Or.inl ⟨rfl, tbT 94 (by decide +kernel) rfl, tbT 95 (by decide +kernel) rfl⟩⟩, fun h => absurd h (by decide)⟩
theorem vcl_7_60 (NF : State → Prop) : pCL NF 7 (60, 1, 60, 1) := fun hN _ q hq => by
  have hq2 : gMT 60 = some q := hq
  cases (show gMT 60 = some (gm_60, 2) from rfl).symm.trans hq2
  exact ⟨yX7_advance, cX7_advance, none, vm_60, ⟨by decide +kernel, Or.inr (Or.inl ⟨rfl, tbT 535 (by decide +kernel) rfl, tbT 536 (by decide +kernel) rfl, tbT 537 (by decide +kernel) rfl⟩)⟩, fun _ => ⟨TX7, 11, rfl⟩⟩
theorem vcl_7_63 (NF : State → Prop) : pCL NF 7 (63, 0, 303, 2) := fun hN _ q hq => by
  have hq2 : gMT 303 = some q := hq
  cases (show gMT 303 = some (gm_303, 2) from rfl).symm.trans hq2
  exact ⟨yJ9_min_7cf53, cJ9_min_7cf53, (some .int), vm_303, ⟨by decide +kernel, Or.inl ⟨rfl, tbT 539 (by decide +kernel) rfl, tbT 540 (by decide +kernel) rfl⟩⟩, fun h => absurd h (by decide)⟩
theorem vcl_7_69 (NF : State → Prop) : pCL NF 7 (69, 1, 63, 2) := fun hN _ q hq => by
  have hq2 : gMT 63 = some q := hq
  cases (show gMT 63 = some (gm_63, 2) from rfl).symm.trans hq2
  exact ⟨yX7_byteAt, cX7_byteAt, (some .int), vm_63, ⟨by decide +kernel, Or.inr (Or.inl ⟨rfl, tbT 542 (by decide +kernel) rfl, tbT 543 (by decide +kernel) rfl, tbT 544 (by decide +kernel) rfl⟩)⟩, fun _ => ⟨TX7, 11, rfl⟩⟩
theorem vcl_7_73 (NF : State → Prop) : pCL NF 7 (73, 0, 67, 1) := fun hN _ q hq => by
  have hq2 : gMT 67 = some q := hq
  cases (show gMT 67 = some (gm_67, 1) from rfl).symm.trans hq2
  exact ⟨yX7_isBlank, cX7_isBlank, (some .boolean), vm_67, ⟨by decide +kernel, Or.inl ⟨rfl, tbT 546 (by decide +kernel) rfl, tbT 547 (by decide +kernel) rfl⟩⟩, fun h => absurd h (by decide)⟩
theorem vcl_7_86 (NF : State → Prop) : pCL NF 7 (86, 0, 66, 1) := fun hN _ q hq => by
  have hq2 : gMT 66 = some q := hq
  cases (show gMT 66 = some (gm_66, 1) from rfl).symm.trans hq2
  exact ⟨yX7_goesOn, cX7_goesOn, (some .boolean), vm_66, ⟨by decide +kernel, Or.inl ⟨rfl, tbT 549 (by decide +kernel) rfl, tbT 550 (by decide +kernel) rfl⟩⟩, fun h => absurd h (by decide)⟩
theorem vcl_7_89 (NF : State → Prop) : pCL NF 7 (89, 1, 72, 1) := fun hN _ q hq => by
  have hq2 : gMT 72 = some q := hq
  cases (show gMT 72 = some (gm_72, 5) from rfl).symm.trans hq2
  exact ⟨yX7_readRun, cX7_readRun, none, vm_72, ⟨by decide +kernel, Or.inr (Or.inl ⟨rfl, tbT 552 (by decide +kernel) rfl, tbT 554 (by decide +kernel) rfl, tbS (n := 11) 0 (by decide +kernel) rfl⟩)⟩, fun _ => ⟨TX7, 11, rfl⟩⟩
theorem vcl_7_92 (NF : State → Prop) : pCL NF 7 (92, 1, 73, 2) := fun hN _ q hq => by
  have hq2 : gMT 73 = some q := hq
  cases (show gMT 73 = some (gm_73, 3) from rfl).symm.trans hq2
  exact ⟨yX7_readSign, cX7_readSign, none, vm_73, ⟨by decide +kernel, Or.inr (Or.inl ⟨rfl, tbT 560 (by decide +kernel) rfl, tbT 562 (by decide +kernel) rfl, tbS (n := 11) 2 (by decide +kernel) rfl⟩)⟩, fun _ => ⟨TX7, 11, rfl⟩⟩
theorem vcl_7_100 (NF : State → Prop) : pCL NF 7 (100, 1, 70, 2) := fun hN _ q hq => by
  have hq2 : gMT 70 = some q := hq
  cases (show gMT 70 = some (gm_70, 4) from rfl).symm.trans hq2
  exact ⟨yX7_keywordBy, cX7_keywordBy, (some .int), vm_70, ⟨by decide +kernel, Or.inr (Or.inl ⟨rfl, tbT 556 (by decide +kernel) rfl, tbT 558 (by decide +kernel) rfl, tbS (n := 11) 1 (by decide +kernel) rfl⟩)⟩, fun _ => ⟨TX7, 11, rfl⟩⟩
theorem vcl_7_104 (NF : State → Prop) : pCL NF 7 (104, 1, 68, 2) := fun hN _ q hq => by
  have hq2 : gMT 68 = some q := hq
  cases (show gMT 68 = some (gm_68, 2) from rfl).symm.trans hq2
  exact ⟨yX7_isSign, cX7_isSign, (some .boolean), vm_68, ⟨by decide +kernel, Or.inr (Or.inl ⟨rfl, tbT 678 (by decide +kernel) rfl, tbT 679 (by decide +kernel) rfl, tbT 680 (by decide +kernel) rfl⟩)⟩, fun _ => ⟨TX7, 11, rfl⟩⟩
theorem vcl_7_107 (NF : State → Prop) : pCL NF 7 (107, 1, 65, 2) := fun hN _ q hq => by
  have hq2 : gMT 65 = some q := hq
  cases (show gMT 65 = some (gm_65, 2) from rfl).symm.trans hq2
  exact ⟨yX7_fail, cX7_fail, (some .boolean), vm_65, ⟨by decide +kernel, Or.inr (Or.inl ⟨rfl, tbT 619 (by decide +kernel) rfl, tbT 592 (by decide +kernel) rfl, tbT 593 (by decide +kernel) rfl⟩)⟩, fun _ => ⟨TX7, 11, rfl⟩⟩
theorem vcl_7_110 (NF : State → Prop) : pCL NF 7 (110, 1, 81, 3) := fun hN _ q hq => by
  have hq2 : gMT 81 = some q := hq
  cases (show gMT 81 = some (gm_81, 7) from rfl).symm.trans hq2
  exact ⟨yX8_indexOf, cX8_indexOf, (some .int), vm_81, ⟨by decide +kernel, Or.inr (Or.inl ⟨rfl, tbT 620 (by decide +kernel) rfl, tbT 601 (by decide +kernel) rfl, tbT 602 (by decide +kernel) rfl⟩)⟩, fun _ => ⟨TX8, 10, rfl⟩⟩
theorem vcl_7 (NF : State → Prop) : ∀ x ∈ gcl__7, pCL NF 7 x := List.forall_mem_cons.mpr ⟨(vcl_7_39 NF), List.forall_mem_cons.mpr ⟨(vcl_7_60 NF), List.forall_mem_cons.mpr ⟨(vcl_7_63 NF), List.forall_mem_cons.mpr ⟨(vcl_7_69 NF), List.forall_mem_cons.mpr ⟨(vcl_7_73 NF), List.forall_mem_cons.mpr ⟨(vcl_7_86 NF), List.forall_mem_cons.mpr ⟨(vcl_7_89 NF), List.forall_mem_cons.mpr ⟨(vcl_7_92 NF), List.forall_mem_cons.mpr ⟨(vcl_7_100 NF), List.forall_mem_cons.mpr ⟨(vcl_7_104 NF), List.forall_mem_cons.mpr ⟨(vcl_7_107 NF), List.forall_mem_cons.mpr ⟨(vcl_7_110 NF), fun _ h => absurd h List.not_mem_nil⟩⟩⟩⟩⟩⟩⟩⟩⟩⟩⟩⟩
theorem vcl_8_37 (NF : State → Prop) : pCL NF 8 (37, 0, 304, 2) := fun hN _ q hq => by
  have hq2 : gMT 304 = some q := hq
  cases (show gMT 304 = some (gm_304, 4) from rfl).symm.trans hq2
  exact ⟨yJ7_fill_53178, cJ7_fill_53178, none, vm_304, ⟨by decide +kernel, Or.inl ⟨rfl, tbT 526 (by decide +kernel) rfl, tbT 200 (by decide +kernel) rfl⟩⟩, fun h => absurd h (by decide)⟩
theorem vcl_8_50 (NF : State → Prop) : pCL NF 8 (50, 7, 0, 5) := fun _ h => absurd h (by decide)
theorem vcl_8_56 (NF : State → Prop) : pCL NF 8 (56, 3, 136, 2) := fun hN _ q hq => by
  have hq2 : gMT 136 = some q := hq
  cases (show gMT 136 = some (gm_136, 2) from rfl).symm.trans hq2
  exact ⟨yX11_isBelow, cX11_isBelow, (some .boolean), vm_136, ⟨by decide +kernel, Or.inr (Or.inr (Or.inr (Or.inl ⟨rfl, ⟨"WardrobeRow", fun s h => hN s h _ (List.mem_of_getElem? (i := 9) rfl)⟩, tbT 585 (by decide +kernel) rfl⟩)))⟩, fun h => absurd h (by decide)⟩
theorem vcl_8_60 (NF : State → Prop) : pCL NF 8 (60, 1, 88, 2) := fun hN _ q hq => by
  have hq2 : gMT 88 = some q := hq
  cases (show gMT 88 = some (gm_88, 2) from rfl).symm.trans hq2
  exact ⟨yX8_namesOf, cX8_namesOf, (some (.array .long)), vm_88, ⟨by decide +kernel, Or.inr (Or.inl ⟨rfl, tbT 587 (by decide +kernel) rfl, tbT 589 (by decide +kernel) rfl, tbS (n := 10) 5 (by decide +kernel) rfl⟩)⟩, fun _ => ⟨TX8, 10, rfl⟩⟩
theorem vcl_8_64 (NF : State → Prop) : pCL NF 8 (64, 1, 87, 2) := fun hN _ q hq => by
  have hq2 : gMT 87 = some q := hq
  cases (show gMT 87 = some (gm_87, 2) from rfl).symm.trans hq2
  exact ⟨yX8_manyOf, cX8_manyOf, (some .int), vm_87, ⟨by decide +kernel, Or.inr (Or.inl ⟨rfl, tbT 580 (by decide +kernel) rfl, tbT 581 (by decide +kernel) rfl, tbT 582 (by decide +kernel) rfl⟩)⟩, fun _ => ⟨TX8, 10, rfl⟩⟩
theorem vcl_8_68 (NF : State → Prop) : pCL NF 8 (68, 0, 303, 2) := fun hN _ q hq => by
  have hq2 : gMT 303 = some q := hq
  cases (show gMT 303 = some (gm_303, 2) from rfl).symm.trans hq2
  exact ⟨yJ9_min_7cf53, cJ9_min_7cf53, (some .int), vm_303, ⟨by decide +kernel, Or.inl ⟨rfl, tbT 604 (by decide +kernel) rfl, tbT 540 (by decide +kernel) rfl⟩⟩, fun h => absurd h (by decide)⟩
theorem vcl_8_74 (NF : State → Prop) : pCL NF 8 (74, 1, 81, 3) := fun hN _ q hq => by
  have hq2 : gMT 81 = some q := hq
  cases (show gMT 81 = some (gm_81, 7) from rfl).symm.trans hq2
  exact ⟨yX8_indexOf, cX8_indexOf, (some .int), vm_81, ⟨by decide +kernel, Or.inr (Or.inl ⟨rfl, tbT 600 (by decide +kernel) rfl, tbT 601 (by decide +kernel) rfl, tbT 602 (by decide +kernel) rfl⟩)⟩, fun _ => ⟨TX8, 10, rfl⟩⟩
theorem vcl_8_78 (NF : State → Prop) : pCL NF 8 (78, 1, 82, 2) := fun hN _ q hq => by
  have hq2 : gMT 82 = some q := hq
  cases (show gMT 82 = some (gm_82, 2) from rfl).symm.trans hq2
  exact ⟨yX8_isFull, cX8_isFull, (some .boolean), vm_82, ⟨by decide +kernel, Or.inr (Or.inl ⟨rfl, tbT 609 (by decide +kernel) rfl, tbT 577 (by decide +kernel) rfl, tbT 578 (by decide +kernel) rfl⟩)⟩, fun _ => ⟨TX8, 10, rfl⟩⟩
theorem vcl_8_82 (NF : State → Prop) : pCL NF 8 (82, 3, 115, 1) := fun hN _ q hq => by
  have hq2 : gMT 115 = some q := hq
  cases (show gMT 115 = some (gm_115, 1) from rfl).symm.trans hq2
  exact ⟨yX11_bit, cX11_bit, (some .int), vm_115, ⟨by decide +kernel, Or.inr (Or.inr (Or.inr (Or.inl ⟨rfl, ⟨"WardrobeRow", fun s h => hN s h _ (List.mem_of_getElem? (i := 10) rfl)⟩, tbT 631 (by decide +kernel) rfl⟩)))⟩, fun h => absurd h (by decide)⟩
theorem vcl_8_85 (NF : State → Prop) : pCL NF 8 (85, 1, 78, 3) := fun hN _ q hq => by
  have hq2 : gMT 78 = some q := hq
  cases (show gMT 78 = some (gm_78, 5) from rfl).symm.trans hq2
  exact ⟨yX8_around, cX8_around, (some .int), vm_78, ⟨by decide +kernel, Or.inr (Or.inl ⟨rfl, tbT 633 (by decide +kernel) rfl, tbT 634 (by decide +kernel) rfl, tbT 635 (by decide +kernel) rfl⟩)⟩, fun _ => ⟨TX8, 10, rfl⟩⟩
theorem vcl_8_88 (NF : State → Prop) : pCL NF 8 (88, 3, 132, 2) := fun hN _ q hq => by
  have hq2 : gMT 132 = some q := hq
  cases (show gMT 132 = some (gm_132, 2) from rfl).symm.trans hq2
  exact ⟨yX11_has, cX11_has, (some .boolean), vm_132, ⟨by decide +kernel, Or.inr (Or.inr (Or.inr (Or.inl ⟨rfl, ⟨"WardrobeRow", fun s h => hN s h _ (List.mem_of_getElem? (i := 11) rfl)⟩, tbT 638 (by decide +kernel) rfl⟩)))⟩, fun h => absurd h (by decide)⟩
theorem vcl_8_91 (NF : State → Prop) : pCL NF 8 (91, 1, 86, 3) := fun hN _ q hq => by
  have hq2 : gMT 86 = some q := hq
  cases (show gMT 86 = some (gm_86, 3) from rfl).symm.trans hq2
  exact ⟨yX8_liking, cX8_liking, (some .int), vm_86, ⟨by decide +kernel, Or.inr (Or.inl ⟨rfl, tbT 1268 (by decide +kernel) rfl, tbT 663 (by decide +kernel) rfl, tbT 664 (by decide +kernel) rfl⟩)⟩, fun _ => ⟨TX8, 10, rfl⟩⟩
theorem vcl_8_94 (NF : State → Prop) : pCL NF 8 (94, 0, 302, 2) := fun hN _ q hq => by
  have hq2 : gMT 302 = some q := hq
  cases (show gMT 302 = some (gm_302, 2) from rfl).symm.trans hq2
  exact ⟨yJ9_max_7cf53, cJ9_max_7cf53, (some .int), vm_302, ⟨by decide +kernel, Or.inl ⟨rfl, tbT 1269 (by decide +kernel) rfl, tbT 1270 (by decide +kernel) rfl⟩⟩, fun h => absurd h (by decide)⟩
theorem vcl_8 (NF : State → Prop) : ∀ x ∈ gcl__8, pCL NF 8 x := List.forall_mem_cons.mpr ⟨(vcl_8_37 NF), List.forall_mem_cons.mpr ⟨(vcl_8_50 NF), List.forall_mem_cons.mpr ⟨(vcl_8_56 NF), List.forall_mem_cons.mpr ⟨(vcl_8_60 NF), List.forall_mem_cons.mpr ⟨(vcl_8_64 NF), List.forall_mem_cons.mpr ⟨(vcl_8_68 NF), List.forall_mem_cons.mpr ⟨(vcl_8_74 NF), List.forall_mem_cons.mpr ⟨(vcl_8_78 NF), List.forall_mem_cons.mpr ⟨(vcl_8_82 NF), List.forall_mem_cons.mpr ⟨(vcl_8_85 NF), List.forall_mem_cons.mpr ⟨(vcl_8_88 NF), List.forall_mem_cons.mpr ⟨(vcl_8_91 NF), List.forall_mem_cons.mpr ⟨(vcl_8_94 NF), fun _ h => absurd h List.not_mem_nil⟩⟩⟩⟩⟩⟩⟩⟩⟩⟩⟩⟩⟩
theorem vcl_9_25 (NF : State → Prop) : pCL NF 9 (25, 1, 80, 1) := fun hN _ q hq => by
  have hq2 : gMT 80 = some q := hq
  cases (show gMT 80 = some (gm_80, 1) from rfl).symm.trans hq2
  exact ⟨yX8_forget, cX8_forget, none, vm_80, ⟨by decide +kernel, Or.inr (Or.inl ⟨rfl, tbT 522 (by decide +kernel) rfl, tbT 523 (by decide +kernel) rfl, tbT 524 (by decide +kernel) rfl⟩)⟩, fun _ => ⟨TX8, 10, rfl⟩⟩
theorem vcl_9_28 (NF : State → Prop) : pCL NF 9 (28, 1, 13, 1) := fun hN _ q hq => by
  have hq2 : gMT 13 = some q := hq
  cases (show gMT 13 = some (gm_13, 1) from rfl).symm.trans hq2
  exact ⟨yX1_forget, cX1_forget, none, vm_13, ⟨by decide +kernel, Or.inr (Or.inl ⟨rfl, tbT 527 (by decide +kernel) rfl, tbT 528 (by decide +kernel) rfl, tbT 529 (by decide +kernel) rfl⟩)⟩, fun _ => ⟨TX1, 10, rfl⟩⟩
theorem vcl_9_29 (NF : State → Prop) : pCL NF 9 (29, 1, 62, 2) := fun hN _ q hq => by
  have hq2 : gMT 62 = some q := hq
  cases (show gMT 62 = some (gm_62, 2) from rfl).symm.trans hq2
  exact ⟨yX7_begin, cX7_begin, none, vm_62, ⟨by decide +kernel, Or.inr (Or.inl ⟨rfl, tbT 531 (by decide +kernel) rfl, tbT 532 (by decide +kernel) rfl, tbT 533 (by decide +kernel) rfl⟩)⟩, fun _ => ⟨TX7, 11, rfl⟩⟩
theorem vcl_9_39 (NF : State → Prop) : pCL NF 9 (39, 1, 93, 2) := fun hN _ q hq => by
  have hq2 : gMT 93 = some q := hq
  cases (show gMT 93 = some (gm_93, 2) from rfl).symm.trans hq2
  exact ⟨yX9_readFact, cX9_readFact, (some .boolean), vm_93, ⟨by decide +kernel, Or.inr (Or.inl ⟨rfl, tbT 564 (by decide +kernel) rfl, tbT 566 (by decide +kernel) rfl, tbS (n := 2) 3 (by decide +kernel) rfl⟩)⟩, fun _ => ⟨TX9, 2, rfl⟩⟩
