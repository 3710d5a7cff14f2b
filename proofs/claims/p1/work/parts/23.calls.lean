def pCL (base o : Nat) (x : Nat × Nat × Nat × Nat) : Prop := x.2.1 ≤ 5 → ∀ q, eMT1 x.2.2.1 = some q → ∃ (y : MethodName) (cc : ByteArray) (ret : Option FieldType), eMok Tb1 eCN q y cc ret ∧ eLk Tb1 (NF1 base) eCN o x.1 x.2.1 x.2.2.2 y ∧ ((x.2.1 = 1 ∨ x.2.1 = 4) → ∃ T N, vwCl[q.1.1]? = some (eCN q.1.1, T, N))
theorem vcl_0_3 (base : Nat) : pCL base 0 (3, 6, 0, 1) := fun h => absurd h (by decide)
theorem vcl_0_28 (base : Nat) : pCL base 0 (28, 1, 35, 2) := fun _ q hq => by
  have hq2 : eMT1 35 = some q := hq
  cases (show eMT1 35 = some (em_35, 2) from rfl).symm.trans hq2
  exact ⟨yX7_begin, cX7_begin, none, vm_35, ⟨by decide +kernel, Or.inr (Or.inl ⟨rfl, tbT 1140 (by decide +kernel) rfl, tbT 532 (by decide +kernel) rfl, tbT 533 (by decide +kernel) rfl⟩)⟩, fun _ => ⟨TX7, 11, rfl⟩⟩
theorem vcl_0 (base : Nat) : ∀ x ∈ ecl__0, pCL base 0 x := List.forall_mem_cons.mpr ⟨(vcl_0_3 base), List.forall_mem_cons.mpr ⟨(vcl_0_28 base), fun _ h => absurd h List.not_mem_nil⟩⟩
theorem vcl_1_3 (base : Nat) : pCL base 1 (3, 6, 0, 1) := fun h => absurd h (by decide)
theorem vcl_1_27 (base : Nat) : pCL base 1 (27, 0, 180, 2) := fun _ q hq => by
  have hq2 : eMT1 180 = some q := hq
  cases (show eMT1 180 = some (em_180, 4) from rfl).symm.trans hq2
  exact ⟨yJ7_fill_53178, cJ7_fill_53178, none, vm_180, ⟨by decide +kernel, Or.inl ⟨rfl, tbT 199 (by decide +kernel) rfl, tbT 200 (by decide +kernel) rfl⟩⟩, fun h => absurd h (by decide)⟩
theorem vcl_1_49 (base : Nat) : pCL base 1 (49, 7, 0, 5) := fun h => absurd h (by decide)
theorem vcl_1_59 (base : Nat) : pCL base 1 (59, 3, 53, 1) := fun _ q hq => by
  have hq2 : eMT1 53 = some q := hq
  cases (show eMT1 53 = some (em_53, 1) from rfl).symm.trans hq2
  exact ⟨yX11_bit, cX11_bit, (some .int), vm_53, ⟨by decide +kernel, Or.inr (Or.inr (Or.inr (Or.inl ⟨rfl, ⟨"WardrobeRow", fun s h => h.1 _ (List.mem_of_getElem? (i := 8) rfl)⟩, tbT 631 (by decide +kernel) rfl⟩)))⟩, fun h => absurd h (by decide)⟩
theorem vcl_1 (base : Nat) : ∀ x ∈ ecl__1, pCL base 1 x := List.forall_mem_cons.mpr ⟨(vcl_1_3 base), List.forall_mem_cons.mpr ⟨(vcl_1_27 base), List.forall_mem_cons.mpr ⟨(vcl_1_49 base), List.forall_mem_cons.mpr ⟨(vcl_1_59 base), fun _ h => absurd h List.not_mem_nil⟩⟩⟩⟩
theorem vcl_2_3 (base : Nat) : pCL base 2 (3, 6, 0, 1) := fun h => absurd h (by decide)
theorem vcl_2 (base : Nat) : ∀ x ∈ ecl__2, pCL base 2 x := List.forall_mem_cons.mpr ⟨(vcl_2_3 base), fun _ h => absurd h List.not_mem_nil⟩
theorem vcl_3_3 (base : Nat) : pCL base 3 (3, 6, 0, 1) := fun h => absurd h (by decide)
theorem vcl_3_27 (base : Nat) : pCL base 3 (27, 1, 41, 3) := fun _ q hq => by
  have hq2 : eMT1 41 = some q := hq
  cases (show eMT1 41 = some (em_41, 5) from rfl).symm.trans hq2
  exact ⟨yX8_around, cX8_around, (some .int), vm_41, ⟨by decide +kernel, Or.inr (Or.inl ⟨rfl, tbT 1004 (by decide +kernel) rfl, tbT 634 (by decide +kernel) rfl, tbT 635 (by decide +kernel) rfl⟩)⟩, fun _ => ⟨TX8, 10, rfl⟩⟩
theorem vcl_3 (base : Nat) : ∀ x ∈ ecl__3, pCL base 3 x := List.forall_mem_cons.mpr ⟨(vcl_3_3 base), List.forall_mem_cons.mpr ⟨(vcl_3_27 base), fun _ h => absurd h List.not_mem_nil⟩⟩
theorem vcl_4_3 (base : Nat) : pCL base 4 (3, 6, 0, 1) := fun h => absurd h (by decide)
theorem vcl_4_34 (base : Nat) : pCL base 4 (34, 0, 180, 2) := fun _ q hq => by
  have hq2 : eMT1 180 = some q := hq
  cases (show eMT1 180 = some (em_180, 4) from rfl).symm.trans hq2
  exact ⟨yJ7_fill_53178, cJ7_fill_53178, none, vm_180, ⟨by decide +kernel, Or.inl ⟨rfl, tbT 1039 (by decide +kernel) rfl, tbT 200 (by decide +kernel) rfl⟩⟩, fun h => absurd h (by decide)⟩
theorem vcl_4_40 (base : Nat) : pCL base 4 (40, 1, 16, 3) := fun _ q hq => by
  have hq2 : eMT1 16 = some q := hq
  cases (show eMT1 16 = some (em_16, 5) from rfl).symm.trans hq2
  exact ⟨yX4_gather, cX4_gather, none, vm_16, ⟨by decide +kernel, Or.inr (Or.inl ⟨rfl, tbT 1040 (by decide +kernel) rfl, tbT 1042 (by decide +kernel) rfl, tbS (n := 8) 27 (by decide +kernel) rfl⟩)⟩, fun _ => ⟨TX4, 8, rfl⟩⟩
theorem vcl_4_44 (base : Nat) : pCL base 4 (44, 3, 72, 2) := fun _ q hq => by
  have hq2 : eMT1 72 = some q := hq
  cases (show eMT1 72 = some (em_72, 2) from rfl).symm.trans hq2
  exact ⟨yX11_isBelow, cX11_isBelow, (some .boolean), vm_72, ⟨by decide +kernel, Or.inr (Or.inr (Or.inr (Or.inl ⟨rfl, ⟨"WardrobeRow", fun s h => h.1 _ (List.mem_of_getElem? (i := 9) rfl)⟩, tbT 585 (by decide +kernel) rfl⟩)))⟩, fun h => absurd h (by decide)⟩
theorem vcl_4_52 (base : Nat) : pCL base 4 (52, 1, 14, 1) := fun _ q hq => by
  have hq2 : eMT1 14 = some q := hq
  cases (show eMT1 14 = some (em_14, 4) from rfl).symm.trans hq2
  exact ⟨yX4_closeRings, cX4_closeRings, none, vm_14, ⟨by decide +kernel, Or.inr (Or.inl ⟨rfl, tbT 1053 (by decide +kernel) rfl, tbT 1055 (by decide +kernel) rfl, tbS (n := 8) 29 (by decide +kernel) rfl⟩)⟩, fun _ => ⟨TX4, 8, rfl⟩⟩
theorem vcl_4_55 (base : Nat) : pCL base 4 (55, 1, 44, 2) := fun _ q hq => by
  have hq2 : eMT1 44 = some q := hq
  cases (show eMT1 44 = some (em_44, 2) from rfl).symm.trans hq2
  exact ⟨yX8_manyOf, cX8_manyOf, (some .int), vm_44, ⟨by decide +kernel, Or.inr (Or.inl ⟨rfl, tbT 1044 (by decide +kernel) rfl, tbT 581 (by decide +kernel) rfl, tbT 582 (by decide +kernel) rfl⟩)⟩, fun _ => ⟨TX8, 10, rfl⟩⟩
theorem vcl_4_73 (base : Nat) : pCL base 4 (73, 3, 69, 2) := fun _ q hq => by
  have hq2 : eMT1 69 = some q := hq
  cases (show eMT1 69 = some (em_69, 2) from rfl).symm.trans hq2
  exact ⟨yX11_has, cX11_has, (some .boolean), vm_69, ⟨by decide +kernel, Or.inr (Or.inr (Or.inr (Or.inl ⟨rfl, ⟨"WardrobeRow", fun s h => h.1 _ (List.mem_of_getElem? (i := 10) rfl)⟩, tbT 638 (by decide +kernel) rfl⟩)))⟩, fun h => absurd h (by decide)⟩
theorem vcl_4_80 (base : Nat) : pCL base 4 (80, 1, 18, 2) := fun _ q hq => by
  have hq2 : eMT1 18 = some q := hq
  cases (show eMT1 18 = some (em_18, 5) from rfl).symm.trans hq2
  exact ⟨yX4_ringOf, cX4_ringOf, (some .int), vm_18, ⟨by decide +kernel, Or.inr (Or.inl ⟨rfl, tbT 1057 (by decide +kernel) rfl, tbT 1059 (by decide +kernel) rfl, tbS (n := 8) 30 (by decide +kernel) rfl⟩)⟩, fun _ => ⟨TX4, 8, rfl⟩⟩
theorem vcl_4_83 (base : Nat) : pCL base 4 (83, 0, 177, 1) := fun _ q hq => by
  have hq2 : eMT1 177 = some q := hq
  cases (show eMT1 177 = some (em_177, 1) from rfl).symm.trans hq2
  exact ⟨yJ6_bitCount_0f7a4, cJ6_bitCount_0f7a4, (some .int), vm_177, ⟨by decide +kernel, Or.inl ⟨rfl, tbT 1062 (by decide +kernel) rfl, tbT 752 (by decide +kernel) rfl⟩⟩, fun h => absurd h (by decide)⟩
theorem vcl_4_95 (base : Nat) : pCL base 4 (95, 1, 13, 3) := fun _ q hq => by
  have hq2 : eMT1 13 = some q := hq
  cases (show eMT1 13 = some (em_13, 4) from rfl).symm.trans hq2
  exact ⟨yX4_choose, cX4_choose, none, vm_13, ⟨by decide +kernel, Or.inr (Or.inl ⟨rfl, tbT 1075 (by decide +kernel) rfl, tbT 1077 (by decide +kernel) rfl, tbS (n := 8) 31 (by decide +kernel) rfl⟩)⟩, fun _ => ⟨TX4, 8, rfl⟩⟩
theorem vcl_4_98 (base : Nat) : pCL base 4 (98, 1, 17, 1) := fun _ q hq => by
  have hq2 : eMT1 17 = some q := hq
  cases (show eMT1 17 = some (em_17, 5) from rfl).symm.trans hq2
  exact ⟨yX4_raisePrices, cX4_raisePrices, (some .boolean), vm_17, ⟨by decide +kernel, Or.inr (Or.inl ⟨rfl, tbT 1083 (by decide +kernel) rfl, tbT 1085 (by decide +kernel) rfl, tbS (n := 8) 33 (by decide +kernel) rfl⟩)⟩, fun _ => ⟨TX4, 8, rfl⟩⟩
theorem vcl_4 (base : Nat) : ∀ x ∈ ecl__4, pCL base 4 x := List.forall_mem_cons.mpr ⟨(vcl_4_3 base), List.forall_mem_cons.mpr ⟨(vcl_4_34 base), List.forall_mem_cons.mpr ⟨(vcl_4_40 base), List.forall_mem_cons.mpr ⟨(vcl_4_44 base), List.forall_mem_cons.mpr ⟨(vcl_4_52 base), List.forall_mem_cons.mpr ⟨(vcl_4_55 base), List.forall_mem_cons.mpr ⟨(vcl_4_73 base), List.forall_mem_cons.mpr ⟨(vcl_4_80 base), List.forall_mem_cons.mpr ⟨(vcl_4_83 base), List.forall_mem_cons.mpr ⟨(vcl_4_95 base), List.forall_mem_cons.mpr ⟨(vcl_4_98 base), fun _ h => absurd h List.not_mem_nil⟩⟩⟩⟩⟩⟩⟩⟩⟩⟩⟩
theorem vcl_5_3 (base : Nat) : pCL base 5 (3, 6, 0, 1) := fun h => absurd h (by decide)
theorem vcl_5_17 (base : Nat) : pCL base 5 (17, 2, 3, 1) := fun _ q hq => by
  have hq2 : eMT1 3 = some q := hq
  cases (show eMT1 3 = some (em_3, 1) from rfl).symm.trans hq2
  exact ⟨yX1_init, cX1_init, none, vm_3, ⟨by decide +kernel, Or.inr (Or.inr (Or.inl ⟨rfl, tbT 266 (by decide +kernel) rfl, tbT 196 (by decide +kernel) rfl, rfl⟩))⟩, fun h => absurd h (by decide)⟩
theorem vcl_5_25 (base : Nat) : pCL base 5 (25, 0, 178, 2) := fun _ q hq => by
  have hq2 : eMT1 178 = some q := hq
  cases (show eMT1 178 = some (em_178, 3) from rfl).symm.trans hq2
  exact ⟨yJ9_floorMod_7cf53, cJ9_floorMod_7cf53, (some .int), vm_178, ⟨by decide +kernel, Or.inl ⟨rfl, tbT 773 (by decide +kernel) rfl, tbT 774 (by decide +kernel) rfl⟩⟩, fun h => absurd h (by decide)⟩
theorem vcl_5_31 (base : Nat) : pCL base 5 (31, 1, 23, 1) := fun _ q hq => by
  have hq2 : eMT1 23 = some q := hq
  cases (show eMT1 23 = some (em_23, 1) from rfl).symm.trans hq2
  exact ⟨yX5_newest, cX5_newest, (some (.object "WardrobeRow$Deeds")), vm_23, ⟨by decide +kernel, Or.inr (Or.inl ⟨rfl, tbT 769 (by decide +kernel) rfl, tbT 771 (by decide +kernel) rfl, tbS (n := 3) 15 (by decide +kernel) rfl⟩)⟩, fun _ => ⟨TX5, 3, rfl⟩⟩
theorem vcl_5_35 (base : Nat) : pCL base 5 (35, 1, 5, 2) := fun _ q hq => by
  have hq2 : eMT1 5 = some q := hq
  cases (show eMT1 5 = some (em_5, 2) from rfl).symm.trans hq2
  exact ⟨yX1_copyFrom, cX1_copyFrom, none, vm_5, ⟨by decide +kernel, Or.inr (Or.inl ⟨rfl, tbT 776 (by decide +kernel) rfl, tbT 690 (by decide +kernel) rfl, tbT 691 (by decide +kernel) rfl⟩)⟩, fun _ => ⟨TX1, 10, rfl⟩⟩
theorem vcl_5 (base : Nat) : ∀ x ∈ ecl__5, pCL base 5 x := List.forall_mem_cons.mpr ⟨(vcl_5_3 base), List.forall_mem_cons.mpr ⟨(vcl_5_17 base), List.forall_mem_cons.mpr ⟨(vcl_5_25 base), List.forall_mem_cons.mpr ⟨(vcl_5_31 base), List.forall_mem_cons.mpr ⟨(vcl_5_35 base), fun _ h => absurd h List.not_mem_nil⟩⟩⟩⟩⟩
theorem vcl_6_3 (base : Nat) : pCL base 6 (3, 6, 0, 1) := fun h => absurd h (by decide)
theorem vcl_6_28 (base : Nat) : pCL base 6 (28, 7, 0, 5) := fun h => absurd h (by decide)
theorem vcl_6_34 (base : Nat) : pCL base 6 (34, 1, 28, 1) := fun _ q hq => by
  have hq2 : eMT1 28 = some q := hq
  cases (show eMT1 28 = some (em_28, 1) from rfl).symm.trans hq2
  exact ⟨yX6_forget, cX6_forget, none, vm_28, ⟨by decide +kernel, Or.inr (Or.inl ⟨rfl, tbT 1201 (by decide +kernel) rfl, tbT 695 (by decide +kernel) rfl, tbT 696 (by decide +kernel) rfl⟩)⟩, fun _ => ⟨TX6, 5, rfl⟩⟩
theorem vcl_6_37 (base : Nat) : pCL base 6 (37, 1, 35, 2) := fun _ q hq => by
  have hq2 : eMT1 35 = some q := hq
  cases (show eMT1 35 = some (em_35, 2) from rfl).symm.trans hq2
  exact ⟨yX7_begin, cX7_begin, none, vm_35, ⟨by decide +kernel, Or.inr (Or.inl ⟨rfl, tbT 1202 (by decide +kernel) rfl, tbT 532 (by decide +kernel) rfl, tbT 533 (by decide +kernel) rfl⟩)⟩, fun _ => ⟨TX7, 11, rfl⟩⟩
theorem vcl_6_43 (base : Nat) : pCL base 6 (43, 1, 29, 4) := fun _ q hq => by
  have hq2 : eMT1 29 = some q := hq
  cases (show eMT1 29 = some (em_29, 8) from rfl).symm.trans hq2
  exact ⟨yX6_readCond, cX6_readCond, (some .boolean), vm_29, ⟨by decide +kernel, Or.inr (Or.inl ⟨rfl, tbT 1203 (by decide +kernel) rfl, tbT 1205 (by decide +kernel) rfl, tbS (n := 5) 44 (by decide +kernel) rfl⟩)⟩, fun _ => ⟨TX6, 5, rfl⟩⟩
theorem vcl_6_50 (base : Nat) : pCL base 6 (50, 1, 36, 2) := fun _ q hq => by
  have hq2 : eMT1 36 = some q := hq
  cases (show eMT1 36 = some (em_36, 2) from rfl).symm.trans hq2
  exact ⟨yX7_fail, cX7_fail, (some .boolean), vm_36, ⟨by decide +kernel, Or.inr (Or.inl ⟨rfl, tbT 1213 (by decide +kernel) rfl, tbT 592 (by decide +kernel) rfl, tbT 593 (by decide +kernel) rfl⟩)⟩, fun _ => ⟨TX7, 11, rfl⟩⟩
theorem vcl_6_54 (base : Nat) : pCL base 6 (54, 1, 30, 4) := fun _ q hq => by
  have hq2 : eMT1 30 = some q := hq
  cases (show eMT1 30 = some (em_30, 7) from rfl).symm.trans hq2
  exact ⟨yX6_readOne, cX6_readOne, (some .boolean), vm_30, ⟨by decide +kernel, Or.inr (Or.inl ⟨rfl, tbT 1207 (by decide +kernel) rfl, tbT 1209 (by decide +kernel) rfl, tbS (n := 5) 45 (by decide +kernel) rfl⟩)⟩, fun _ => ⟨TX6, 5, rfl⟩⟩
theorem vcl_6_57 (base : Nat) : pCL base 6 (57, 1, 38, 1) := fun _ q hq => by
  have hq2 : eMT1 38 = some q := hq
  cases (show eMT1 38 = some (em_38, 1) from rfl).symm.trans hq2
  exact ⟨yX7_keyword, cX7_keyword, (some .int), vm_38, ⟨by decide +kernel, Or.inr (Or.inl ⟨rfl, tbT 1212 (by decide +kernel) rfl, tbT 569 (by decide +kernel) rfl, tbT 570 (by decide +kernel) rfl⟩)⟩, fun _ => ⟨TX7, 11, rfl⟩⟩
theorem vcl_6_68 (base : Nat) : pCL base 6 (68, 1, 37, 2) := fun _ q hq => by
  have hq2 : eMT1 37 = some q := hq
  cases (show eMT1 37 = some (em_37, 2) from rfl).symm.trans hq2
  exact ⟨yX7_isSign, cX7_isSign, (some .boolean), vm_37, ⟨by decide +kernel, Or.inr (Or.inl ⟨rfl, tbT 1211 (by decide +kernel) rfl, tbT 679 (by decide +kernel) rfl, tbT 680 (by decide +kernel) rfl⟩)⟩, fun _ => ⟨TX7, 11, rfl⟩⟩
theorem vcl_6 (base : Nat) : ∀ x ∈ ecl__6, pCL base 6 x := List.forall_mem_cons.mpr ⟨(vcl_6_3 base), List.forall_mem_cons.mpr ⟨(vcl_6_28 base), List.forall_mem_cons.mpr ⟨(vcl_6_34 base), List.forall_mem_cons.mpr ⟨(vcl_6_37 base), List.forall_mem_cons.mpr ⟨(vcl_6_43 base), List.forall_mem_cons.mpr ⟨(vcl_6_50 base), List.forall_mem_cons.mpr ⟨(vcl_6_54 base), List.forall_mem_cons.mpr ⟨(vcl_6_57 base), List.forall_mem_cons.mpr ⟨(vcl_6_68 base), fun _ h => absurd h List.not_mem_nil⟩⟩⟩⟩⟩⟩⟩⟩⟩
theorem vcl_7_3 (base : Nat) : pCL base 7 (3, 6, 0, 1) := fun h => absurd h (by decide)
theorem vcl_7_19 (base : Nat) : pCL base 7 (19, 8, 0, 1) := fun h => absurd h (by decide)
theorem vcl_7_60 (base : Nat) : pCL base 7 (60, 1, 33, 1) := fun _ q hq => by
  have hq2 : eMT1 33 = some q := hq
  cases (show eMT1 33 = some (em_33, 2) from rfl).symm.trans hq2
  exact ⟨yX7_advance, cX7_advance, none, vm_33, ⟨by decide +kernel, Or.inr (Or.inl ⟨rfl, tbT 535 (by decide +kernel) rfl, tbT 536 (by decide +kernel) rfl, tbT 537 (by decide +kernel) rfl⟩)⟩, fun _ => ⟨TX7, 11, rfl⟩⟩
theorem vcl_7_63 (base : Nat) : pCL base 7 (63, 0, 179, 2) := fun _ q hq => by
  have hq2 : eMT1 179 = some q := hq
  cases (show eMT1 179 = some (em_179, 2) from rfl).symm.trans hq2
  exact ⟨yJ9_min_7cf53, cJ9_min_7cf53, (some .int), vm_179, ⟨by decide +kernel, Or.inl ⟨rfl, tbT 539 (by decide +kernel) rfl, tbT 540 (by decide +kernel) rfl⟩⟩, fun h => absurd h (by decide)⟩
theorem vcl_7 (base : Nat) : ∀ x ∈ ecl__7, pCL base 7 x := List.forall_mem_cons.mpr ⟨(vcl_7_3 base), List.forall_mem_cons.mpr ⟨(vcl_7_19 base), List.forall_mem_cons.mpr ⟨(vcl_7_60 base), List.forall_mem_cons.mpr ⟨(vcl_7_63 base), fun _ h => absurd h List.not_mem_nil⟩⟩⟩⟩
theorem vcl_8_3 (base : Nat) : pCL base 8 (3, 6, 0, 1) := fun h => absurd h (by decide)
theorem vcl_8_37 (base : Nat) : pCL base 8 (37, 0, 180, 2) := fun _ q hq => by
  have hq2 : eMT1 180 = some q := hq
  cases (show eMT1 180 = some (em_180, 4) from rfl).symm.trans hq2
  exact ⟨yJ7_fill_53178, cJ7_fill_53178, none, vm_180, ⟨by decide +kernel, Or.inl ⟨rfl, tbT 526 (by decide +kernel) rfl, tbT 200 (by decide +kernel) rfl⟩⟩, fun h => absurd h (by decide)⟩
theorem vcl_8_50 (base : Nat) : pCL base 8 (50, 7, 0, 5) := fun h => absurd h (by decide)
theorem vcl_8_56 (base : Nat) : pCL base 8 (56, 3, 72, 2) := fun _ q hq => by
  have hq2 : eMT1 72 = some q := hq
  cases (show eMT1 72 = some (em_72, 2) from rfl).symm.trans hq2
  exact ⟨yX11_isBelow, cX11_isBelow, (some .boolean), vm_72, ⟨by decide +kernel, Or.inr (Or.inr (Or.inr (Or.inl ⟨rfl, ⟨"WardrobeRow", fun s h => h.1 _ (List.mem_of_getElem? (i := 11) rfl)⟩, tbT 585 (by decide +kernel) rfl⟩)))⟩, fun h => absurd h (by decide)⟩
theorem vcl_8_64 (base : Nat) : pCL base 8 (64, 1, 44, 2) := fun _ q hq => by
  have hq2 : eMT1 44 = some q := hq
  cases (show eMT1 44 = some (em_44, 2) from rfl).symm.trans hq2
  exact ⟨yX8_manyOf, cX8_manyOf, (some .int), vm_44, ⟨by decide +kernel, Or.inr (Or.inl ⟨rfl, tbT 580 (by decide +kernel) rfl, tbT 581 (by decide +kernel) rfl, tbT 582 (by decide +kernel) rfl⟩)⟩, fun _ => ⟨TX8, 10, rfl⟩⟩
theorem vcl_8_82 (base : Nat) : pCL base 8 (82, 3, 53, 1) := fun _ q hq => by
  have hq2 : eMT1 53 = some q := hq
  cases (show eMT1 53 = some (em_53, 1) from rfl).symm.trans hq2
  exact ⟨yX11_bit, cX11_bit, (some .int), vm_53, ⟨by decide +kernel, Or.inr (Or.inr (Or.inr (Or.inl ⟨rfl, ⟨"WardrobeRow", fun s h => h.1 _ (List.mem_of_getElem? (i := 12) rfl)⟩, tbT 631 (by decide +kernel) rfl⟩)))⟩, fun h => absurd h (by decide)⟩
theorem vcl_8 (base : Nat) : ∀ x ∈ ecl__8, pCL base 8 x := List.forall_mem_cons.mpr ⟨(vcl_8_3 base), List.forall_mem_cons.mpr ⟨(vcl_8_37 base), List.forall_mem_cons.mpr ⟨(vcl_8_50 base), List.forall_mem_cons.mpr ⟨(vcl_8_56 base), List.forall_mem_cons.mpr ⟨(vcl_8_64 base), List.forall_mem_cons.mpr ⟨(vcl_8_82 base), fun _ h => absurd h List.not_mem_nil⟩⟩⟩⟩⟩⟩
theorem vcl_9_3 (base : Nat) : pCL base 9 (3, 6, 0, 1) := fun h => absurd h (by decide)
theorem vcl_9_11 (base : Nat) : pCL base 9 (11, 5, 39, 1) := fun _ q hq => by
  have hq2 : eMT1 39 = some q := hq
  cases (show eMT1 39 = some (em_39, 1) from rfl).symm.trans hq2
  exact ⟨yX8_init, cX8_init, none, vm_39, ⟨by decide +kernel, Or.inr (Or.inr (Or.inr (Or.inr (Or.inr ⟨rfl, ⟨"WardrobeRow", fun s h => h.1 _ (List.mem_of_getElem? (i := 13) rfl)⟩, tbT 145 (by decide +kernel) rfl, rfl⟩))))⟩, fun h => absurd h (by decide)⟩
theorem vcl_9_20 (base : Nat) : pCL base 9 (20, 2, 3, 1) := fun _ q hq => by
  have hq2 : eMT1 3 = some q := hq
  cases (show eMT1 3 = some (em_3, 1) from rfl).symm.trans hq2
  exact ⟨yX1_init, cX1_init, none, vm_3, ⟨by decide +kernel, Or.inr (Or.inr (Or.inl ⟨rfl, tbT 309 (by decide +kernel) rfl, tbT 196 (by decide +kernel) rfl, rfl⟩))⟩, fun h => absurd h (by decide)⟩
theorem vcl_9_25 (base : Nat) : pCL base 9 (25, 1, 43, 1) := fun _ q hq => by
  have hq2 : eMT1 43 = some q := hq
  cases (show eMT1 43 = some (em_43, 1) from rfl).symm.trans hq2
  exact ⟨yX8_forget, cX8_forget, none, vm_43, ⟨by decide +kernel, Or.inr (Or.inl ⟨rfl, tbT 522 (by decide +kernel) rfl, tbT 523 (by decide +kernel) rfl, tbT 524 (by decide +kernel) rfl⟩)⟩, fun _ => ⟨TX8, 10, rfl⟩⟩
theorem vcl_9_28 (base : Nat) : pCL base 9 (28, 1, 6, 1) := fun _ q hq => by
  have hq2 : eMT1 6 = some q := hq
  cases (show eMT1 6 = some (em_6, 1) from rfl).symm.trans hq2
  exact ⟨yX1_forget, cX1_forget, none, vm_6, ⟨by decide +kernel, Or.inr (Or.inl ⟨rfl, tbT 527 (by decide +kernel) rfl, tbT 528 (by decide +kernel) rfl, tbT 529 (by decide +kernel) rfl⟩)⟩, fun _ => ⟨TX1, 10, rfl⟩⟩
theorem vcl_9_29 (base : Nat) : pCL base 9 (29, 1, 35, 2) := fun _ q hq => by
  have hq2 : eMT1 35 = some q := hq
  cases (show eMT1 35 = some (em_35, 2) from rfl).symm.trans hq2
  exact ⟨yX7_begin, cX7_begin, none, vm_35, ⟨by decide +kernel, Or.inr (Or.inl ⟨rfl, tbT 531 (by decide +kernel) rfl, tbT 532 (by decide +kernel) rfl, tbT 533 (by decide +kernel) rfl⟩)⟩, fun _ => ⟨TX7, 11, rfl⟩⟩
theorem vcl_9 (base : Nat) : ∀ x ∈ ecl__9, pCL base 9 x := List.forall_mem_cons.mpr ⟨(vcl_9_3 base), List.forall_mem_cons.mpr ⟨(vcl_9_11 base), List.forall_mem_cons.mpr ⟨(vcl_9_20 base), List.forall_mem_cons.mpr ⟨(vcl_9_25 base), List.forall_mem_cons.mpr ⟨(vcl_9_28 base), List.forall_mem_cons.mpr ⟨(vcl_9_29 base), fun _ h => absurd h List.not_mem_nil⟩⟩⟩⟩⟩⟩
theorem vcl_10_3 (base : Nat) : pCL base 10 (3, 6, 0, 1) := fun h => absurd h (by decide)
theorem vcl_10 (base : Nat) : ∀ x ∈ ecl__10, pCL base 10 x := List.forall_mem_cons.mpr ⟨(vcl_10_3 base), fun _ h => absurd h List.not_mem_nil⟩
theorem vcl_11_1 (base : Nat) : pCL base 11 (1, 6, 0, 1) := fun h => absurd h (by decide)
theorem vcl_11_9 (base : Nat) : pCL base 11 (9, 2, 32, 1) := fun _ q hq => by
  have hq2 : eMT1 32 = some q := hq
  cases (show eMT1 32 = some (em_32, 2) from rfl).symm.trans hq2
  exact ⟨yX7_init, cX7_init, none, vm_32, ⟨by decide +kernel, Or.inr (Or.inr (Or.inl ⟨rfl, tbT 36 (by decide +kernel) rfl, tbT 37 (by decide +kernel) rfl, rfl⟩))⟩, fun h => absurd h (by decide)⟩
theorem vcl_11_18 (base : Nat) : pCL base 11 (18, 5, 39, 1) := fun _ q hq => by
  have hq2 : eMT1 39 = some q := hq
  cases (show eMT1 39 = some (em_39, 1) from rfl).symm.trans hq2
  exact ⟨yX8_init, cX8_init, none, vm_39, ⟨by decide +kernel, Or.inr (Or.inr (Or.inr (Or.inr (Or.inr ⟨rfl, ⟨"WardrobeRow", fun s h => h.1 _ (List.mem_of_getElem? (i := 0) rfl)⟩, tbT 145 (by decide +kernel) rfl, rfl⟩))))⟩, fun h => absurd h (by decide)⟩
theorem vcl_11_25 (base : Nat) : pCL base 11 (25, 2, 3, 1) := fun _ q hq => by
  have hq2 : eMT1 3 = some q := hq
  cases (show eMT1 3 = some (em_3, 1) from rfl).symm.trans hq2
  exact ⟨yX1_init, cX1_init, none, vm_3, ⟨by decide +kernel, Or.inr (Or.inr (Or.inl ⟨rfl, tbT 195 (by decide +kernel) rfl, tbT 196 (by decide +kernel) rfl, rfl⟩))⟩, fun h => absurd h (by decide)⟩
theorem vcl_11_35 (base : Nat) : pCL base 11 (35, 2, 20, 1) := fun _ q hq => by
  have hq2 : eMT1 20 = some q := hq
  cases (show eMT1 20 = some (em_20, 2) from rfl).symm.trans hq2
  exact ⟨yX5_init, cX5_init, none, vm_20, ⟨by decide +kernel, Or.inr (Or.inr (Or.inl ⟨rfl, tbT 260 (by decide +kernel) rfl, tbT 261 (by decide +kernel) rfl, rfl⟩))⟩, fun h => absurd h (by decide)⟩
theorem vcl_11_42 (base : Nat) : pCL base 11 (42, 5, 26, 1) := fun _ q hq => by
  have hq2 : eMT1 26 = some q := hq
  cases (show eMT1 26 = some (em_26, 1) from rfl).symm.trans hq2
  exact ⟨yX6_init, cX6_init, none, vm_26, ⟨by decide +kernel, Or.inr (Or.inr (Or.inr (Or.inr (Or.inr ⟨rfl, ⟨"WardrobeRow", fun s h => h.1 _ (List.mem_of_getElem? (i := 1) rfl)⟩, tbT 280 (by decide +kernel) rfl, rfl⟩))))⟩, fun h => absurd h (by decide)⟩
theorem vcl_11_52 (base : Nat) : pCL base 11 (52, 5, 45, 1) := fun _ q hq => by
  have hq2 : eMT1 45 = some q := hq
  cases (show eMT1 45 = some (em_45, 1) from rfl).symm.trans hq2
  exact ⟨yX9_init, cX9_init, none, vm_45, ⟨by decide +kernel, Or.inr (Or.inr (Or.inr (Or.inr (Or.inr ⟨rfl, ⟨"WardrobeRow", fun s h => h.1 _ (List.mem_of_getElem? (i := 2) rfl)⟩, tbT 303 (by decide +kernel) rfl, rfl⟩))))⟩, fun h => absurd h (by decide)⟩
theorem vcl_11_59 (base : Nat) : pCL base 11 (59, 5, 0, 1) := fun _ q hq => by
  have hq2 : eMT1 0 = some q := hq
  cases (show eMT1 0 = some (em_0, 1) from rfl).symm.trans hq2
  exact ⟨yX0_init, cX0_init, none, vm_0, ⟨by decide +kernel, Or.inr (Or.inr (Or.inr (Or.inr (Or.inr ⟨rfl, ⟨"WardrobeRow", fun s h => h.1 _ (List.mem_of_getElem? (i := 3) rfl)⟩, tbT 322 (by decide +kernel) rfl, rfl⟩))))⟩, fun h => absurd h (by decide)⟩
theorem vcl_11_66 (base : Nat) : pCL base 11 (66, 5, 47, 1) := fun _ q hq => by
  have hq2 : eMT1 47 = some q := hq
  cases (show eMT1 47 = some (em_47, 1) from rfl).symm.trans hq2
  exact ⟨yX10_init, cX10_init, none, vm_47, ⟨by decide +kernel, Or.inr (Or.inr (Or.inr (Or.inr (Or.inr ⟨rfl, ⟨"WardrobeRow", fun s h => h.1 _ (List.mem_of_getElem? (i := 4) rfl)⟩, tbT 364 (by decide +kernel) rfl, rfl⟩))))⟩, fun h => absurd h (by decide)⟩
theorem vcl_11_73 (base : Nat) : pCL base 11 (73, 5, 10, 1) := fun _ q hq => by
  have hq2 : eMT1 10 = some q := hq
  cases (show eMT1 10 = some (em_10, 1) from rfl).symm.trans hq2
  exact ⟨yX3_init, cX3_init, none, vm_10, ⟨by decide +kernel, Or.inr (Or.inr (Or.inr (Or.inr (Or.inr ⟨rfl, ⟨"WardrobeRow", fun s h => h.1 _ (List.mem_of_getElem? (i := 5) rfl)⟩, tbT 392 (by decide +kernel) rfl, rfl⟩))))⟩, fun h => absurd h (by decide)⟩
theorem vcl_11_80 (base : Nat) : pCL base 11 (80, 5, 12, 1) := fun _ q hq => by
  have hq2 : eMT1 12 = some q := hq
  cases (show eMT1 12 = some (em_12, 1) from rfl).symm.trans hq2
  exact ⟨yX4_init, cX4_init, none, vm_12, ⟨by decide +kernel, Or.inr (Or.inr (Or.inr (Or.inr (Or.inr ⟨rfl, ⟨"WardrobeRow", fun s h => h.1 _ (List.mem_of_getElem? (i := 6) rfl)⟩, tbT 405 (by decide +kernel) rfl, rfl⟩))))⟩, fun h => absurd h (by decide)⟩
theorem vcl_11_87 (base : Nat) : pCL base 11 (87, 5, 9, 1) := fun _ q hq => by
  have hq2 : eMT1 9 = some q := hq
  cases (show eMT1 9 = some (em_9, 1) from rfl).symm.trans hq2
  exact ⟨yX2_init, cX2_init, none, vm_9, ⟨by decide +kernel, Or.inr (Or.inr (Or.inr (Or.inr (Or.inr ⟨rfl, ⟨"WardrobeRow", fun s h => h.1 _ (List.mem_of_getElem? (i := 7) rfl)⟩, tbT 441 (by decide +kernel) rfl, rfl⟩))))⟩, fun h => absurd h (by decide)⟩
theorem vcl_11_108 (base : Nat) : pCL base 11 (108, 1, 34, 2) := fun _ q hq => by
  have hq2 : eMT1 34 = some q := hq
  cases (show eMT1 34 = some (em_34, 3) from rfl).symm.trans hq2
  exact ⟨yX7_append, cX7_append, none, vm_34, ⟨by decide +kernel, Or.inr (Or.inl ⟨rfl, tbT 506 (by decide +kernel) rfl, tbT 507 (by decide +kernel) rfl, tbT 508 (by decide +kernel) rfl⟩)⟩, fun _ => ⟨TX7, 11, rfl⟩⟩
theorem vcl_11_112 (base : Nat) : pCL base 11 (112, 1, 46, 2) := fun _ q hq => by
  have hq2 : eMT1 46 = some q := hq
  cases (show eMT1 46 = some (em_46, 3) from rfl).symm.trans hq2
  exact ⟨yX9_readText, cX9_readText, (some .int), vm_46, ⟨by decide +kernel, Or.inr (Or.inl ⟨rfl, tbT 518 (by decide +kernel) rfl, tbT 519 (by decide +kernel) rfl, tbT 520 (by decide +kernel) rfl⟩)⟩, fun _ => ⟨TX9, 2, rfl⟩⟩
theorem vcl_11_122 (base : Nat) : pCL base 11 (122, 1, 42, 2) := fun _ q hq => by
  have hq2 : eMT1 42 = some q := hq
  cases (show eMT1 42 = some (em_42, 2) from rfl).symm.trans hq2
  exact ⟨yX8_copyFrom, cX8_copyFrom, none, vm_42, ⟨by decide +kernel, Or.inr (Or.inl ⟨rfl, tbT 682 (by decide +kernel) rfl, tbT 683 (by decide +kernel) rfl, tbT 684 (by decide +kernel) rfl⟩)⟩, fun _ => ⟨TX8, 10, rfl⟩⟩
theorem vcl_11_129 (base : Nat) : pCL base 11 (129, 1, 5, 2) := fun _ q hq => by
  have hq2 : eMT1 5 = some q := hq
  cases (show eMT1 5 = some (em_5, 2) from rfl).symm.trans hq2
  exact ⟨yX1_copyFrom, cX1_copyFrom, none, vm_5, ⟨by decide +kernel, Or.inr (Or.inl ⟨rfl, tbT 689 (by decide +kernel) rfl, tbT 690 (by decide +kernel) rfl, tbT 691 (by decide +kernel) rfl⟩)⟩, fun _ => ⟨TX1, 10, rfl⟩⟩
theorem vcl_11_132 (base : Nat) : pCL base 11 (132, 1, 28, 1) := fun _ q hq => by
  have hq2 : eMT1 28 = some q := hq
  cases (show eMT1 28 = some (em_28, 1) from rfl).symm.trans hq2
  exact ⟨yX6_forget, cX6_forget, none, vm_28, ⟨by decide +kernel, Or.inr (Or.inl ⟨rfl, tbT 694 (by decide +kernel) rfl, tbT 695 (by decide +kernel) rfl, tbT 696 (by decide +kernel) rfl⟩)⟩, fun _ => ⟨TX6, 5, rfl⟩⟩
theorem vcl_11_135 (base : Nat) : pCL base 11 (135, 1, 22, 1) := fun _ q hq => by
  have hq2 : eMT1 22 = some q := hq
  cases (show eMT1 22 = some (em_22, 1) from rfl).symm.trans hq2
  exact ⟨yX5_forget, cX5_forget, none, vm_22, ⟨by decide +kernel, Or.inr (Or.inl ⟨rfl, tbT 698 (by decide +kernel) rfl, tbT 699 (by decide +kernel) rfl, tbT 700 (by decide +kernel) rfl⟩)⟩, fun _ => ⟨TX5, 3, rfl⟩⟩
theorem vcl_11_139 (base : Nat) : pCL base 11 (139, 1, 75, 2) := fun _ q hq => by
  have hq2 : eMT1 75 = some q := hq
  cases (show eMT1 75 = some (em_75, 2) from rfl).symm.trans hq2
  exact ⟨yX11_isRoom, cX11_isRoom, (some .boolean), vm_75, ⟨by decide +kernel, Or.inr (Or.inl ⟨rfl, tbT 761 (by decide +kernel) rfl, tbT 763 (by decide +kernel) rfl, tbS (n := 17) 14 (by decide +kernel) rfl⟩)⟩, fun _ => ⟨TX11, 17, rfl⟩⟩
theorem vcl_11_160 (base : Nat) : pCL base 11 (160, 0, 69, 2) := fun _ q hq => by
  have hq2 : eMT1 69 = some q := hq
  cases (show eMT1 69 = some (em_69, 2) from rfl).symm.trans hq2
  exact ⟨yX11_has, cX11_has, (some .boolean), vm_69, ⟨by decide +kernel, Or.inl ⟨rfl, tbT 738 (by decide +kernel) rfl, tbT 638 (by decide +kernel) rfl⟩⟩, fun h => absurd h (by decide)⟩
theorem vcl_11_171 (base : Nat) : pCL base 11 (171, 1, 73, 2) := fun _ q hq => by
  have hq2 : eMT1 73 = some q := hq
  cases (show eMT1 73 = some (em_73, 2) from rfl).symm.trans hq2
  exact ⟨yX11_isOwner, cX11_isOwner, (some .boolean), vm_73, ⟨by decide +kernel, Or.inr (Or.inl ⟨rfl, tbT 710 (by decide +kernel) rfl, tbT 712 (by decide +kernel) rfl, tbS (n := 17) 12 (by decide +kernel) rfl⟩)⟩, fun _ => ⟨TX11, 17, rfl⟩⟩
theorem vcl_11_180 (base : Nat) : pCL base 11 (180, 1, 8, 2) := fun _ q hq => by
  have hq2 : eMT1 8 = some q := hq
  cases (show eMT1 8 = some (em_8, 4) from rfl).symm.trans hq2
  exact ⟨yX1_roomsOf, cX1_roomsOf, (some .int), vm_8, ⟨by decide +kernel, Or.inr (Or.inl ⟨rfl, tbT 721 (by decide +kernel) rfl, tbT 722 (by decide +kernel) rfl, tbT 723 (by decide +kernel) rfl⟩)⟩, fun _ => ⟨TX1, 10, rfl⟩⟩
theorem vcl_11_183 (base : Nat) : pCL base 11 (183, 1, 40, 1) := fun _ q hq => by
  have hq2 : eMT1 40 = some q := hq
  cases (show eMT1 40 = some (em_40, 1) from rfl).symm.trans hq2
  exact ⟨yX8_allRooms, cX8_allRooms, (some .int), vm_40, ⟨by decide +kernel, Or.inr (Or.inl ⟨rfl, tbT 726 (by decide +kernel) rfl, tbT 727 (by decide +kernel) rfl, tbT 728 (by decide +kernel) rfl⟩)⟩, fun _ => ⟨TX8, 10, rfl⟩⟩
theorem vcl_11_196 (base : Nat) : pCL base 11 (196, 1, 74, 2) := fun _ q hq => by
  have hq2 : eMT1 74 = some q := hq
  cases (show eMT1 74 = some (em_74, 2) from rfl).symm.trans hq2
  exact ⟨yX11_isPassage, cX11_isPassage, (some .boolean), vm_74, ⟨by decide +kernel, Or.inr (Or.inl ⟨rfl, tbT 734 (by decide +kernel) rfl, tbT 736 (by decide +kernel) rfl, tbS (n := 17) 13 (by decide +kernel) rfl⟩)⟩, fun _ => ⟨TX11, 17, rfl⟩⟩
theorem vcl_11_220 (base : Nat) : pCL base 11 (220, 1, 4, 1) := fun _ q hq => by
  have hq2 : eMT1 4 = some q := hq
  cases (show eMT1 4 = some (em_4, 3) from rfl).symm.trans hq2
  exact ⟨yX1_allGoings, cX1_allGoings, (some .int), vm_4, ⟨by decide +kernel, Or.inr (Or.inl ⟨rfl, tbT 743 (by decide +kernel) rfl, tbT 744 (by decide +kernel) rfl, tbT 745 (by decide +kernel) rfl⟩)⟩, fun _ => ⟨TX1, 10, rfl⟩⟩
theorem vcl_11_223 (base : Nat) : pCL base 11 (223, 1, 44, 2) := fun _ q hq => by
  have hq2 : eMT1 44 = some q := hq
  cases (show eMT1 44 = some (em_44, 2) from rfl).symm.trans hq2
  exact ⟨yX8_manyOf, cX8_manyOf, (some .int), vm_44, ⟨by decide +kernel, Or.inr (Or.inl ⟨rfl, tbT 714 (by decide +kernel) rfl, tbT 581 (by decide +kernel) rfl, tbT 582 (by decide +kernel) rfl⟩)⟩, fun _ => ⟨TX8, 10, rfl⟩⟩
theorem vcl_11_229 (base : Nat) : pCL base 11 (229, 0, 177, 1) := fun _ q hq => by
  have hq2 : eMT1 177 = some q := hq
  cases (show eMT1 177 = some (em_177, 1) from rfl).symm.trans hq2
  exact ⟨yJ6_bitCount_0f7a4, cJ6_bitCount_0f7a4, (some .int), vm_177, ⟨by decide +kernel, Or.inl ⟨rfl, tbT 751 (by decide +kernel) rfl, tbT 752 (by decide +kernel) rfl⟩⟩, fun h => absurd h (by decide)⟩
theorem vcl_11_234 (base : Nat) : pCL base 11 (234, 1, 24, 2) := fun _ q hq => by
  have hq2 : eMT1 24 = some q := hq
  cases (show eMT1 24 = some (em_24, 2) from rfl).symm.trans hq2
  exact ⟨yX5_prepare, cX5_prepare, none, vm_24, ⟨by decide +kernel, Or.inr (Or.inl ⟨rfl, tbT 765 (by decide +kernel) rfl, tbT 766 (by decide +kernel) rfl, tbT 767 (by decide +kernel) rfl⟩)⟩, fun _ => ⟨TX5, 3, rfl⟩⟩
theorem vcl_11_241 (base : Nat) : pCL base 11 (241, 1, 78, 2) := fun _ q hq => by
  have hq2 : eMT1 78 = some q := hq
  cases (show eMT1 78 = some (em_78, 2) from rfl).symm.trans hq2
  exact ⟨yX11_keptIfDone, cX11_keptIfDone, (some .int), vm_78, ⟨by decide +kernel, Or.inr (Or.inl ⟨rfl, tbT 788 (by decide +kernel) rfl, tbT 790 (by decide +kernel) rfl, tbS (n := 17) 16 (by decide +kernel) rfl⟩)⟩, fun _ => ⟨TX11, 17, rfl⟩⟩
theorem vcl_11_244 (base : Nat) : pCL base 11 (244, 1, 21, 1) := fun _ q hq => by
  have hq2 : eMT1 21 = some q := hq
  cases (show eMT1 21 = some (em_21, 1) from rfl).symm.trans hq2
  exact ⟨yX5_confirm, cX5_confirm, none, vm_21, ⟨by decide +kernel, Or.inr (Or.inl ⟨rfl, tbT 792 (by decide +kernel) rfl, tbT 793 (by decide +kernel) rfl, tbT 794 (by decide +kernel) rfl⟩)⟩, fun _ => ⟨TX5, 3, rfl⟩⟩
theorem vcl_11_247 (base : Nat) : pCL base 11 (247, 1, 49, 3) := fun _ q hq => by
  have hq2 : eMT1 49 = some q := hq
  cases (show eMT1 49 = some (em_49, 3) from rfl).symm.trans hq2
  exact ⟨yX11_areTwoOwners, cX11_areTwoOwners, (some .boolean), vm_49, ⟨by decide +kernel, Or.inr (Or.inl ⟨rfl, tbT 804 (by decide +kernel) rfl, tbT 806 (by decide +kernel) rfl, tbS (n := 17) 17 (by decide +kernel) rfl⟩)⟩, fun _ => ⟨TX11, 17, rfl⟩⟩
theorem vcl_11_254 (base : Nat) : pCL base 11 (254, 0, 77, 1) := fun _ q hq => by
  have hq2 : eMT1 77 = some q := hq
  cases (show eMT1 77 = some (em_77, 1) from rfl).symm.trans hq2
  exact ⟨yX11_isSwitch, cX11_isSwitch, (some .boolean), vm_77, ⟨by decide +kernel, Or.inl ⟨rfl, tbT 816 (by decide +kernel) rfl, tbT 817 (by decide +kernel) rfl⟩⟩, fun h => absurd h (by decide)⟩
theorem vcl_11_273 (base : Nat) : pCL base 11 (273, 1, 7, 3) := fun _ q hq => by
  have hq2 : eMT1 7 = some q := hq
  cases (show eMT1 7 = some (em_7, 6) from rfl).symm.trans hq2
  exact ⟨yX1_passMinutes, cX1_passMinutes, (some .int), vm_7, ⟨by decide +kernel, Or.inr (Or.inl ⟨rfl, tbT 864 (by decide +kernel) rfl, tbT 865 (by decide +kernel) rfl, tbT 866 (by decide +kernel) rfl⟩)⟩, fun _ => ⟨TX1, 10, rfl⟩⟩
theorem vcl_11_277 (base : Nat) : pCL base 11 (277, 1, 25, 2) := fun _ q hq => by
  have hq2 : eMT1 25 = some q := hq
  cases (show eMT1 25 = some (em_25, 2) from rfl).symm.trans hq2
  exact ⟨yX5_takeBack, cX5_takeBack, (some .int), vm_25, ⟨by decide +kernel, Or.inr (Or.inl ⟨rfl, tbT 873 (by decide +kernel) rfl, tbT 874 (by decide +kernel) rfl, tbT 875 (by decide +kernel) rfl⟩)⟩, fun _ => ⟨TX5, 3, rfl⟩⟩
theorem vcl_11_294 (base : Nat) : pCL base 11 (294, 0, 72, 2) := fun _ q hq => by
  have hq2 : eMT1 72 = some q := hq
  cases (show eMT1 72 = some (em_72, 2) from rfl).symm.trans hq2
  exact ⟨yX11_isBelow, cX11_isBelow, (some .boolean), vm_72, ⟨by decide +kernel, Or.inl ⟨rfl, tbT 715 (by decide +kernel) rfl, tbT 585 (by decide +kernel) rfl⟩⟩, fun h => absurd h (by decide)⟩
theorem vcl_11_313 (base : Nat) : pCL base 11 (313, 1, 76, 1) := fun _ q hq => by
  have hq2 : eMT1 76 = some q := hq
  cases (show eMT1 76 = some (em_76, 3) from rfl).symm.trans hq2
  exact ⟨yX11_isRowOfRooms, cX11_isRowOfRooms, (some .boolean), vm_76, ⟨by decide +kernel, Or.inr (Or.inl ⟨rfl, tbT 979 (by decide +kernel) rfl, tbT 981 (by decide +kernel) rfl, tbS (n := 17) 22 (by decide +kernel) rfl⟩)⟩, fun _ => ⟨TX11, 17, rfl⟩⟩
theorem vcl_11_326 (base : Nat) : pCL base 11 (326, 0, 53, 1) := fun _ q hq => by
  have hq2 : eMT1 53 = some q := hq
  cases (show eMT1 53 = some (em_53, 1) from rfl).symm.trans hq2
  exact ⟨yX11_bit, cX11_bit, (some .int), vm_53, ⟨by decide +kernel, Or.inl ⟨rfl, tbT 993 (by decide +kernel) rfl, tbT 631 (by decide +kernel) rfl⟩⟩, fun h => absurd h (by decide)⟩
theorem vcl_11_339 (base : Nat) : pCL base 11 (339, 1, 11, 4) := fun _ q hq => by
  have hq2 : eMT1 11 = some q := hq
  cases (show eMT1 11 = some (em_11, 6) from rfl).symm.trans hq2
  exact ⟨yX3_burntIn, cX3_burntIn, (some .int), vm_11, ⟨by decide +kernel, Or.inr (Or.inl ⟨rfl, tbT 1009 (by decide +kernel) rfl, tbT 1010 (by decide +kernel) rfl, tbT 1011 (by decide +kernel) rfl⟩)⟩, fun _ => ⟨TX3, 2, rfl⟩⟩
theorem vcl_11_345 (base : Nat) : pCL base 11 (345, 1, 19, 3) := fun _ q hq => by
  have hq2 : eMT1 19 = some q := hq
  cases (show eMT1 19 = some (em_19, 6) from rfl).symm.trans hq2
  exact ⟨yX4_trade, cX4_trade, none, vm_19, ⟨by decide +kernel, Or.inr (Or.inl ⟨rfl, tbT 1035 (by decide +kernel) rfl, tbT 1036 (by decide +kernel) rfl, tbT 1037 (by decide +kernel) rfl⟩)⟩, fun _ => ⟨TX4, 8, rfl⟩⟩
theorem vcl_11_355 (base : Nat) : pCL base 11 (355, 1, 15, 3) := fun _ q hq => by
  have hq2 : eMT1 15 = some q := hq
  cases (show eMT1 15 = some (em_15, 4) from rfl).symm.trans hq2
  exact ⟨yX4_findPrices, cX4_findPrices, (some .int), vm_15, ⟨by decide +kernel, Or.inr (Or.inl ⟨rfl, tbT 1071 (by decide +kernel) rfl, tbT 1072 (by decide +kernel) rfl, tbT 1073 (by decide +kernel) rfl⟩)⟩, fun _ => ⟨TX4, 8, rfl⟩⟩
theorem vcl_11_387 (base : Nat) : pCL base 11 (387, 1, 2, 3) := fun _ q hq => by
  have hq2 : eMT1 2 = some q := hq
  cases (show eMT1 2 = some (em_2, 4) from rfl).symm.trans hq2
  exact ⟨yX0_readText, cX0_readText, (some .boolean), vm_2, ⟨by decide +kernel, Or.inr (Or.inl ⟨rfl, tbT 1136 (by decide +kernel) rfl, tbT 1137 (by decide +kernel) rfl, tbT 1138 (by decide +kernel) rfl⟩)⟩, fun _ => ⟨TX0, 10, rfl⟩⟩
theorem vcl_11_390 (base : Nat) : pCL base 11 (390, 1, 1, 3) := fun _ q hq => by
  have hq2 : eMT1 1 = some q := hq
  cases (show eMT1 1 = some (em_1, 5) from rfl).symm.trans hq2
  exact ⟨yX0_live, cX0_live, (some .int), vm_1, ⟨by decide +kernel, Or.inr (Or.inl ⟨rfl, tbT 1170 (by decide +kernel) rfl, tbT 1171 (by decide +kernel) rfl, tbT 1172 (by decide +kernel) rfl⟩)⟩, fun _ => ⟨TX0, 10, rfl⟩⟩
theorem vcl_11_408 (base : Nat) : pCL base 11 (408, 1, 31, 3) := fun _ q hq => by
  have hq2 : eMT1 31 = some q := hq
  cases (show eMT1 31 = some (em_31, 3) from rfl).symm.trans hq2
  exact ⟨yX6_readText, cX6_readText, (some .boolean), vm_31, ⟨by decide +kernel, Or.inr (Or.inl ⟨rfl, tbT 1197 (by decide +kernel) rfl, tbT 1198 (by decide +kernel) rfl, tbT 1199 (by decide +kernel) rfl⟩)⟩, fun _ => ⟨TX6, 5, rfl⟩⟩
theorem vcl_11_409 (base : Nat) : pCL base 11 (409, 1, 27, 2) := fun _ q hq => by
  have hq2 : eMT1 27 = some q := hq
  cases (show eMT1 27 = some (em_27, 2) from rfl).symm.trans hq2
  exact ⟨yX6_copyFrom, cX6_copyFrom, none, vm_27, ⟨by decide +kernel, Or.inr (Or.inl ⟨rfl, tbT 1230 (by decide +kernel) rfl, tbT 1231 (by decide +kernel) rfl, tbT 1232 (by decide +kernel) rfl⟩)⟩, fun _ => ⟨TX6, 5, rfl⟩⟩
theorem vcl_11 (base : Nat) : ∀ x ∈ ecl__11, pCL base 11 x := List.forall_mem_cons.mpr ⟨(vcl_11_1 base), List.forall_mem_cons.mpr ⟨(vcl_11_9 base), List.forall_mem_cons.mpr ⟨(vcl_11_18 base), List.forall_mem_cons.mpr ⟨(vcl_11_25 base), List.forall_mem_cons.mpr ⟨(vcl_11_35 base), List.forall_mem_cons.mpr ⟨(vcl_11_42 base), List.forall_mem_cons.mpr ⟨(vcl_11_52 base), List.forall_mem_cons.mpr ⟨(vcl_11_59 base), List.forall_mem_cons.mpr ⟨(vcl_11_66 base), List.forall_mem_cons.mpr ⟨(vcl_11_73 base), List.forall_mem_cons.mpr ⟨(vcl_11_80 base), List.forall_mem_cons.mpr ⟨(vcl_11_87 base), List.forall_mem_cons.mpr ⟨(vcl_11_108 base), List.forall_mem_cons.mpr ⟨(vcl_11_112 base), List.forall_mem_cons.mpr ⟨(vcl_11_122 base), List.forall_mem_cons.mpr ⟨(vcl_11_129 base), List.forall_mem_cons.mpr ⟨(vcl_11_132 base), List.forall_mem_cons.mpr ⟨(vcl_11_135 base), List.forall_mem_cons.mpr ⟨(vcl_11_139 base), List.forall_mem_cons.mpr ⟨(vcl_11_160 base), List.forall_mem_cons.mpr ⟨(vcl_11_171 base), List.forall_mem_cons.mpr ⟨(vcl_11_180 base), List.forall_mem_cons.mpr ⟨(vcl_11_183 base), List.forall_mem_cons.mpr ⟨(vcl_11_196 base), List.forall_mem_cons.mpr ⟨(vcl_11_220 base), List.forall_mem_cons.mpr ⟨(vcl_11_223 base), List.forall_mem_cons.mpr ⟨(vcl_11_229 base), List.forall_mem_cons.mpr ⟨(vcl_11_234 base), List.forall_mem_cons.mpr ⟨(vcl_11_241 base), List.forall_mem_cons.mpr ⟨(vcl_11_244 base), List.forall_mem_cons.mpr ⟨(vcl_11_247 base), List.forall_mem_cons.mpr ⟨(vcl_11_254 base), List.forall_mem_cons.mpr ⟨(vcl_11_273 base), List.forall_mem_cons.mpr ⟨(vcl_11_277 base), List.forall_mem_cons.mpr ⟨(vcl_11_294 base), List.forall_mem_cons.mpr ⟨(vcl_11_313 base), List.forall_mem_cons.mpr ⟨(vcl_11_326 base), List.forall_mem_cons.mpr ⟨(vcl_11_339 base), List.forall_mem_cons.mpr ⟨(vcl_11_345 base), List.forall_mem_cons.mpr ⟨(vcl_11_355 base), List.forall_mem_cons.mpr ⟨(vcl_11_387 base), List.forall_mem_cons.mpr ⟨(vcl_11_390 base), List.forall_mem_cons.mpr ⟨(vcl_11_408 base), List.forall_mem_cons.mpr ⟨(vcl_11_409 base), fun _ h => absurd h List.not_mem_nil⟩⟩⟩⟩⟩⟩⟩⟩⟩⟩⟩⟩⟩⟩⟩⟩⟩⟩⟩⟩⟩⟩⟩⟩⟩⟩⟩⟩⟩⟩⟩⟩⟩⟩⟩⟩⟩⟩⟩⟩⟩⟩⟩⟩
theorem vcl_12_10 (base : Nat) : pCL base 12 (10, 1, 128, 2) := fun _ q hq => by
  have hq2 : eMT1 128 = some q := hq
  cases (show eMT1 128 = some (em_128, 3) from rfl).symm.trans hq2
  exact ⟨yX12_four, cX12_four, none, vm_128, ⟨by decide +kernel, Or.inr (Or.inl ⟨rfl, tbT 1368 (by decide +kernel) rfl, tbT 1370 (by decide +kernel) rfl, tbS (n := 55) 50 (by decide +kernel) rfl⟩)⟩, fun _ => ⟨TX12, 55, rfl⟩⟩
theorem vcl_12_27 (base : Nat) : pCL base 12 (27, 6, 0, 1) := fun h => absurd h (by decide)
theorem vcl_12_174 (base : Nat) : pCL base 12 (174, 1, 151, 1) := fun _ q hq => by
  have hq2 : eMT1 151 = some q := hq
  cases (show eMT1 151 = some (em_151, 1) from rfl).symm.trans hq2
  exact ⟨yX12_peek, cX12_peek, (some .int), vm_151, ⟨by decide +kernel, Or.inr (Or.inl ⟨rfl, tbT 1591 (by decide +kernel) rfl, tbT 1593 (by decide +kernel) rfl, tbS (n := 55) 53 (by decide +kernel) rfl⟩)⟩, fun _ => ⟨TX12, 55, rfl⟩⟩
theorem vcl_12_207 (base : Nat) : pCL base 12 (207, 1, 137, 2) := fun _ q hq => by
  have hq2 : eMT1 137 = some q := hq
  cases (show eMT1 137 = some (em_137, 2) from rfl).symm.trans hq2
  exact ⟨yX12_isSign, cX12_isSign, (some .boolean), vm_137, ⟨by decide +kernel, Or.inr (Or.inl ⟨rfl, tbT 1659 (by decide +kernel) rfl, tbT 1661 (by decide +kernel) rfl, tbS (n := 55) 67 (by decide +kernel) rfl⟩)⟩, fun _ => ⟨TX12, 55, rfl⟩⟩
theorem vcl_12_210 (base : Nat) : pCL base 12 (210, 1, 110, 2) := fun _ q hq => by
  have hq2 : eMT1 110 = some q := hq
  cases (show eMT1 110 = some (em_110, 2) from rfl).symm.trans hq2
  exact ⟨yX12_bad, cX12_bad, (some .boolean), vm_110, ⟨by decide +kernel, Or.inr (Or.inl ⟨rfl, tbT 1609 (by decide +kernel) rfl, tbT 1611 (by decide +kernel) rfl, tbS (n := 55) 56 (by decide +kernel) rfl⟩)⟩, fun _ => ⟨TX12, 55, rfl⟩⟩
theorem vcl_12_213 (base : Nat) : pCL base 12 (213, 1, 162, 1) := fun _ q hq => by
  have hq2 : eMT1 162 = some q := hq
  cases (show eMT1 162 = some (em_162, 4) from rfl).symm.trans hq2
  exact ⟨yX12_skip, cX12_skip, none, vm_162, ⟨by decide +kernel, Or.inr (Or.inl ⟨rfl, tbT 1587 (by decide +kernel) rfl, tbT 1589 (by decide +kernel) rfl, tbS (n := 55) 52 (by decide +kernel) rfl⟩)⟩, fun _ => ⟨TX12, 55, rfl⟩⟩
theorem vcl_12_216 (base : Nat) : pCL base 12 (216, 0, 133, 3) := fun _ q hq => by
  have hq2 : eMT1 133 = some q := hq
  cases (show eMT1 133 = some (em_133, 3) from rfl).symm.trans hq2
  exact ⟨yX12_isIn, cX12_isIn, (some .boolean), vm_133, ⟨by decide +kernel, Or.inl ⟨rfl, tbT 1652 (by decide +kernel) rfl, tbT 1653 (by decide +kernel) rfl⟩⟩, fun h => absurd h (by decide)⟩
theorem vcl_12_235 (base : Nat) : pCL base 12 (235, 1, 138, 2) := fun _ q hq => by
  have hq2 : eMT1 138 = some q := hq
  cases (show eMT1 138 = some (em_138, 3) from rfl).symm.trans hq2
  exact ⟨yX12_isWord, cX12_isWord, (some .boolean), vm_138, ⟨by decide +kernel, Or.inr (Or.inl ⟨rfl, tbT 1605 (by decide +kernel) rfl, tbT 1607 (by decide +kernel) rfl, tbS (n := 55) 55 (by decide +kernel) rfl⟩)⟩, fun _ => ⟨TX12, 55, rfl⟩⟩
theorem vcl_12_260 (base : Nat) : pCL base 12 (260, 1, 165, 2) := fun _ q hq => by
  have hq2 : eMT1 165 = some q := hq
  cases (show eMT1 165 = some (em_165, 2) from rfl).symm.trans hq2
  exact ⟨yX12_taken, cX12_taken, none, vm_165, ⟨by decide +kernel, Or.inr (Or.inl ⟨rfl, tbT 1583 (by decide +kernel) rfl, tbT 1585 (by decide +kernel) rfl, tbS (n := 55) 51 (by decide +kernel) rfl⟩)⟩, fun _ => ⟨TX12, 55, rfl⟩⟩
theorem vcl_12_275 (base : Nat) : pCL base 12 (275, 1, 134, 2) := fun _ q hq => by
  have hq2 : eMT1 134 = some q := hq
  cases (show eMT1 134 = some (em_134, 2) from rfl).symm.trans hq2
  exact ⟨yX12_isOwner, cX12_isOwner, (some .boolean), vm_134, ⟨by decide +kernel, Or.inr (Or.inl ⟨rfl, tbT 1695 (by decide +kernel) rfl, tbT 1697 (by decide +kernel) rfl, tbS (n := 55) 73 (by decide +kernel) rfl⟩)⟩, fun _ => ⟨TX12, 55, rfl⟩⟩
theorem vcl_12_278 (base : Nat) : pCL base 12 (278, 1, 136, 2) := fun _ q hq => by
  have hq2 : eMT1 136 = some q := hq
  cases (show eMT1 136 = some (em_136, 2) from rfl).symm.trans hq2
  exact ⟨yX12_isRoom, cX12_isRoom, (some .boolean), vm_136, ⟨by decide +kernel, Or.inr (Or.inl ⟨rfl, tbT 1671 (by decide +kernel) rfl, tbT 1673 (by decide +kernel) rfl, tbS (n := 55) 68 (by decide +kernel) rfl⟩)⟩, fun _ => ⟨TX12, 55, rfl⟩⟩
theorem vcl_12_281 (base : Nat) : pCL base 12 (281, 1, 169, 2) := fun _ q hq => by
  have hq2 : eMT1 169 = some q := hq
  cases (show eMT1 169 = some (em_169, 2) from rfl).symm.trans hq2
  exact ⟨yX12_throwsIf, cX12_throwsIf, (some .boolean), vm_169, ⟨by decide +kernel, Or.inr (Or.inl ⟨rfl, tbT 1675 (by decide +kernel) rfl, tbT 1677 (by decide +kernel) rfl, tbS (n := 55) 69 (by decide +kernel) rfl⟩)⟩, fun _ => ⟨TX12, 55, rfl⟩⟩
theorem vcl_12_298 (base : Nat) : pCL base 12 (298, 1, 157, 2) := fun _ q hq => by
  have hq2 : eMT1 157 = some q := hq
  cases (show eMT1 157 = some (em_157, 4) from rfl).symm.trans hq2
  exact ⟨yX12_roomsOf, cX12_roomsOf, (some .int), vm_157, ⟨by decide +kernel, Or.inr (Or.inl ⟨rfl, tbT 1703 (by decide +kernel) rfl, tbT 1705 (by decide +kernel) rfl, tbS (n := 55) 75 (by decide +kernel) rfl⟩)⟩, fun _ => ⟨TX12, 55, rfl⟩⟩
theorem vcl_12_301 (base : Nat) : pCL base 12 (301, 1, 135, 2) := fun _ q hq => by
  have hq2 : eMT1 135 = some q := hq
  cases (show eMT1 135 = some (em_135, 2) from rfl).symm.trans hq2
  exact ⟨yX12_isPassage, cX12_isPassage, (some .boolean), vm_135, ⟨by decide +kernel, Or.inr (Or.inl ⟨rfl, tbT 1711 (by decide +kernel) rfl, tbT 1713 (by decide +kernel) rfl, tbS (n := 55) 76 (by decide +kernel) rfl⟩)⟩, fun _ => ⟨TX12, 55, rfl⟩⟩
theorem vcl_12_316 (base : Nat) : pCL base 12 (316, 1, 116, 1) := fun _ q hq => by
  have hq2 : eMT1 116 = some q := hq
  cases (show eMT1 116 = some (em_116, 3) from rfl).symm.trans hq2
  exact ⟨yX12_catching, cX12_catching, (some .int), vm_116, ⟨by decide +kernel, Or.inr (Or.inl ⟨rfl, tbT 1819 (by decide +kernel) rfl, tbT 1821 (by decide +kernel) rfl, tbS (n := 55) 93 (by decide +kernel) rfl⟩)⟩, fun _ => ⟨TX12, 55, rfl⟩⟩
theorem vcl_12_325 (base : Nat) : pCL base 12 (325, 1, 139, 1) := fun _ q hq => by
  have hq2 : eMT1 139 = some q := hq
  cases (show eMT1 139 = some (em_139, 2) from rfl).symm.trans hq2
  exact ⟨yX12_keep, cX12_keep, none, vm_139, ⟨by decide +kernel, Or.inr (Or.inl ⟨rfl, tbT 1735 (by decide +kernel) rfl, tbT 1737 (by decide +kernel) rfl, tbS (n := 55) 80 (by decide +kernel) rfl⟩)⟩, fun _ => ⟨TX12, 55, rfl⟩⟩
theorem vcl_12_332 (base : Nat) : pCL base 12 (332, 1, 106, 3) := fun _ q hq => by
  have hq2 : eMT1 106 = some q := hq
  cases (show eMT1 106 = some (em_106, 3) from rfl).symm.trans hq2
  exact ⟨yX12_areTwo, cX12_areTwo, (some .boolean), vm_106, ⟨by decide +kernel, Or.inr (Or.inl ⟨rfl, tbT 1751 (by decide +kernel) rfl, tbT 1753 (by decide +kernel) rfl, tbS (n := 55) 82 (by decide +kernel) rfl⟩)⟩, fun _ => ⟨TX12, 55, rfl⟩⟩
theorem vcl_12_351 (base : Nat) : pCL base 12 (351, 1, 105, 2) := fun _ q hq => by
  have hq2 : eMT1 105 = some q := hq
  cases (show eMT1 105 = some (em_105, 2) from rfl).symm.trans hq2
  exact ⟨yX12_areMinutes, cX12_areMinutes, (some .boolean), vm_105, ⟨by decide +kernel, Or.inr (Or.inl ⟨rfl, tbT 1811 (by decide +kernel) rfl, tbT 1813 (by decide +kernel) rfl, tbS (n := 55) 91 (by decide +kernel) rfl⟩)⟩, fun _ => ⟨TX12, 55, rfl⟩⟩
theorem vcl_12_354 (base : Nat) : pCL base 12 (354, 1, 143, 1) := fun _ q hq => by
  have hq2 : eMT1 143 = some q := hq
  cases (show eMT1 143 = some (em_143, 3) from rfl).symm.trans hq2
  exact ⟨yX12_minute, cX12_minute, none, vm_143, ⟨by decide +kernel, Or.inr (Or.inl ⟨rfl, tbT 1815 (by decide +kernel) rfl, tbT 1817 (by decide +kernel) rfl, tbS (n := 55) 92 (by decide +kernel) rfl⟩)⟩, fun _ => ⟨TX12, 55, rfl⟩⟩
theorem vcl_12_369 (base : Nat) : pCL base 12 (369, 1, 170, 1) := fun _ q hq => by
  have hq2 : eMT1 170 = some q := hq
  cases (show eMT1 170 = some (em_170, 2) from rfl).symm.trans hq2
  exact ⟨yX12_tries, cX12_tries, none, vm_170, ⟨by decide +kernel, Or.inr (Or.inl ⟨rfl, tbT 1855 (by decide +kernel) rfl, tbT 1857 (by decide +kernel) rfl, tbS (n := 55) 97 (by decide +kernel) rfl⟩)⟩, fun _ => ⟨TX12, 55, rfl⟩⟩
theorem vcl_12_375 (base : Nat) : pCL base 12 (375, 1, 109, 1) := fun _ q hq => by
  have hq2 : eMT1 109 = some q := hq
  cases (show eMT1 109 = some (em_109, 2) from rfl).symm.trans hq2
  exact ⟨yX12_back, cX12_back, none, vm_109, ⟨by decide +kernel, Or.inr (Or.inl ⟨rfl, tbT 1862 (by decide +kernel) rfl, tbT 1864 (by decide +kernel) rfl, tbS (n := 55) 98 (by decide +kernel) rfl⟩)⟩, fun _ => ⟨TX12, 55, rfl⟩⟩
theorem vcl_12_385 (base : Nat) : pCL base 12 (385, 1, 115, 2) := fun _ q hq => by
  have hq2 : eMT1 115 = some q := hq
  cases (show eMT1 115 = some (em_115, 4) from rfl).symm.trans hq2
  exact ⟨yX12_burntIn, cX12_burntIn, (some .int), vm_115, ⟨by decide +kernel, Or.inr (Or.inl ⟨rfl, tbT 1878 (by decide +kernel) rfl, tbT 1880 (by decide +kernel) rfl, tbS (n := 55) 99 (by decide +kernel) rfl⟩)⟩, fun _ => ⟨TX12, 55, rfl⟩⟩
theorem vcl_12_400 (base : Nat) : pCL base 12 (400, 1, 124, 1) := fun _ q hq => by
  have hq2 : eMT1 124 = some q := hq
  cases (show eMT1 124 = some (em_124, 6) from rfl).symm.trans hq2
  exact ⟨yX12_exchanges, cX12_exchanges, none, vm_124, ⟨by decide +kernel, Or.inr (Or.inl ⟨rfl, tbT 1898 (by decide +kernel) rfl, tbT 1900 (by decide +kernel) rfl, tbS (n := 55) 101 (by decide +kernel) rfl⟩)⟩, fun _ => ⟨TX12, 55, rfl⟩⟩
theorem vcl_12_461 (base : Nat) : pCL base 12 (461, 1, 140, 1) := fun _ q hq => by
  have hq2 : eMT1 140 = some q := hq
  cases (show eMT1 140 = some (em_140, 1) from rfl).symm.trans hq2
  exact ⟨yX12_leafOf, cX12_leafOf, (some .int), vm_140, ⟨by decide +kernel, Or.inr (Or.inl ⟨rfl, tbT 2027 (by decide +kernel) rfl, tbT 2029 (by decide +kernel) rfl, tbS (n := 55) 119 (by decide +kernel) rfl⟩)⟩, fun _ => ⟨TX12, 55, rfl⟩⟩
theorem vcl_12_479 (base : Nat) : pCL base 12 (479, 1, 148, 1) := fun _ q hq => by
  have hq2 : eMT1 148 = some q := hq
  cases (show eMT1 148 = some (em_148, 5) from rfl).symm.trans hq2
  exact ⟨yX12_operand, cX12_operand, (some .boolean), vm_148, ⟨by decide +kernel, Or.inr (Or.inl ⟨rfl, tbT 2023 (by decide +kernel) rfl, tbT 2025 (by decide +kernel) rfl, tbS (n := 55) 118 (by decide +kernel) rfl⟩)⟩, fun _ => ⟨TX12, 55, rfl⟩⟩
theorem vcl_12 (base : Nat) : ∀ x ∈ ecl__12, pCL base 12 x := List.forall_mem_cons.mpr ⟨(vcl_12_10 base), List.forall_mem_cons.mpr ⟨(vcl_12_27 base), List.forall_mem_cons.mpr ⟨(vcl_12_174 base), List.forall_mem_cons.mpr ⟨(vcl_12_207 base), List.forall_mem_cons.mpr ⟨(vcl_12_210 base), List.forall_mem_cons.mpr ⟨(vcl_12_213 base), List.forall_mem_cons.mpr ⟨(vcl_12_216 base), List.forall_mem_cons.mpr ⟨(vcl_12_235 base), List.forall_mem_cons.mpr ⟨(vcl_12_260 base), List.forall_mem_cons.mpr ⟨(vcl_12_275 base), List.forall_mem_cons.mpr ⟨(vcl_12_278 base), List.forall_mem_cons.mpr ⟨(vcl_12_281 base), List.forall_mem_cons.mpr ⟨(vcl_12_298 base), List.forall_mem_cons.mpr ⟨(vcl_12_301 base), List.forall_mem_cons.mpr ⟨(vcl_12_316 base), List.forall_mem_cons.mpr ⟨(vcl_12_325 base), List.forall_mem_cons.mpr ⟨(vcl_12_332 base), List.forall_mem_cons.mpr ⟨(vcl_12_351 base), List.forall_mem_cons.mpr ⟨(vcl_12_354 base), List.forall_mem_cons.mpr ⟨(vcl_12_369 base), List.forall_mem_cons.mpr ⟨(vcl_12_375 base), List.forall_mem_cons.mpr ⟨(vcl_12_385 base), List.forall_mem_cons.mpr ⟨(vcl_12_400 base), List.forall_mem_cons.mpr ⟨(vcl_12_461 base), List.forall_mem_cons.mpr ⟨(vcl_12_479 base), fun _ h => absurd h List.not_mem_nil⟩⟩⟩⟩⟩⟩⟩⟩⟩⟩⟩⟩⟩⟩⟩⟩⟩⟩⟩⟩⟩⟩⟩⟩⟩
theorem vcl_13_15 (base : Nat) : pCL base 13 (15, 2, 48, 1) := fun _ q hq => by
  have hq2 : eMT1 48 = some q := hq
  cases (show eMT1 48 = some (em_48, 2) from rfl).symm.trans hq2
  exact ⟨yX11_init, cX11_init, none, vm_48, ⟨by decide +kernel, Or.inr (Or.inr (Or.inl ⟨rfl, tbT 28 (by decide +kernel) rfl, tbT 29 (by decide +kernel) rfl, rfl⟩))⟩, fun h => absurd h (by decide)⟩
theorem vcl_13_18 (base : Nat) : pCL base 13 (18, 2, 104, 1) := fun _ q hq => by
  have hq2 : eMT1 104 = some q := hq
  cases (show eMT1 104 = some (em_104, 1) from rfl).symm.trans hq2
  exact ⟨yX12_init, cX12_init, none, vm_104, ⟨by decide +kernel, Or.inr (Or.inr (Or.inl ⟨rfl, tbT 1378 (by decide +kernel) rfl, tbT 1379 (by decide +kernel) rfl, rfl⟩))⟩, fun h => absurd h (by decide)⟩
theorem vcl_13_19 (base : Nat) : pCL base 13 (19, 1, 65, 6) := fun _ q hq => by
  have hq2 : eMT1 65 = some q := hq
  cases (show eMT1 65 = some (em_65, 6) from rfl).symm.trans hq2
  exact ⟨yX11_feed, cX11_feed, (some .int), vm_65, ⟨by decide +kernel, Or.inr (Or.inl ⟨rfl, tbT 502 (by decide +kernel) rfl, tbT 503 (by decide +kernel) rfl, tbT 504 (by decide +kernel) rfl⟩)⟩, fun _ => ⟨TX11, 17, rfl⟩⟩
theorem vcl_13_23 (base : Nat) : pCL base 13 (23, 1, 126, 6) := fun _ q hq => by
  have hq2 : eMT1 126 = some q := hq
  cases (show eMT1 126 = some (em_126, 6) from rfl).symm.trans hq2
  exact ⟨yX12_feed, cX12_feed, (some .int), vm_126, ⟨by decide +kernel, Or.inr (Or.inl ⟨rfl, tbT 1364 (by decide +kernel) rfl, tbT 1365 (by decide +kernel) rfl, tbT 1366 (by decide +kernel) rfl⟩)⟩, fun _ => ⟨TX12, 55, rfl⟩⟩
theorem vcl_13_24 (base : Nat) : pCL base 13 (24, 1, 62, 2) := fun _ q hq => by
  have hq2 : eMT1 62 = some q := hq
  cases (show eMT1 62 = some (em_62, 2) from rfl).symm.trans hq2
  exact ⟨yX11_end, cX11_end, (some .boolean), vm_62, ⟨by decide +kernel, Or.inr (Or.inl ⟨rfl, tbT 510 (by decide +kernel) rfl, tbT 511 (by decide +kernel) rfl, tbT 512 (by decide +kernel) rfl⟩)⟩, fun _ => ⟨TX11, 17, rfl⟩⟩
theorem vcl_13_28 (base : Nat) : pCL base 13 (28, 1, 122, 2) := fun _ q hq => by
  have hq2 : eMT1 122 = some q := hq
  cases (show eMT1 122 = some (em_122, 2) from rfl).symm.trans hq2
  exact ⟨yX12_end, cX12_end, (some .boolean), vm_122, ⟨by decide +kernel, Or.inr (Or.inl ⟨rfl, tbT 1373 (by decide +kernel) rfl, tbT 1374 (by decide +kernel) rfl, tbT 1375 (by decide +kernel) rfl⟩)⟩, fun _ => ⟨TX12, 55, rfl⟩⟩
theorem vcl_13_29 (base : Nat) : pCL base 13 (29, 1, 97, 1) := fun _ q hq => by
  have hq2 : eMT1 97 = some q := hq
  cases (show eMT1 97 = some (em_97, 2) from rfl).symm.trans hq2
  exact ⟨yX11_terrace, cX11_terrace, (some .int), vm_97, ⟨by decide +kernel, Or.inr (Or.inl ⟨rfl, tbT 514 (by decide +kernel) rfl, tbT 515 (by decide +kernel) rfl, tbT 516 (by decide +kernel) rfl⟩)⟩, fun _ => ⟨TX11, 17, rfl⟩⟩
theorem vcl_13_33 (base : Nat) : pCL base 13 (33, 1, 166, 1) := fun _ q hq => by
  have hq2 : eMT1 166 = some q := hq
  cases (show eMT1 166 = some (em_166, 2) from rfl).symm.trans hq2
  exact ⟨yX12_terrace, cX12_terrace, (some .int), vm_166, ⟨by decide +kernel, Or.inr (Or.inl ⟨rfl, tbT 1579 (by decide +kernel) rfl, tbT 1580 (by decide +kernel) rfl, tbT 1581 (by decide +kernel) rfl⟩)⟩, fun _ => ⟨TX12, 55, rfl⟩⟩
theorem vcl_13_34 (base : Nat) : pCL base 13 (34, 1, 64, 1) := fun _ q hq => by
  have hq2 : eMT1 64 = some q := hq
  cases (show eMT1 64 = some (em_64, 1) from rfl).symm.trans hq2
  exact ⟨yX11_fault, cX11_fault, (some .int), vm_64, ⟨by decide +kernel, Or.inr (Or.inl ⟨rfl, tbT 702 (by decide +kernel) rfl, tbT 703 (by decide +kernel) rfl, tbT 704 (by decide +kernel) rfl⟩)⟩, fun _ => ⟨TX11, 17, rfl⟩⟩
theorem vcl_13_37 (base : Nat) : pCL base 13 (37, 1, 125, 1) := fun _ q hq => by
  have hq2 : eMT1 125 = some q := hq
  cases (show eMT1 125 = some (em_125, 1) from rfl).symm.trans hq2
  exact ⟨yX12_fault, cX12_fault, (some .int), vm_125, ⟨by decide +kernel, Or.inr (Or.inl ⟨rfl, tbT 1663 (by decide +kernel) rfl, tbT 1664 (by decide +kernel) rfl, tbT 1665 (by decide +kernel) rfl⟩)⟩, fun _ => ⟨TX12, 55, rfl⟩⟩
theorem vcl_13_38 (base : Nat) : pCL base 13 (38, 9, 75, 4) := fun h => absurd h (by decide)
theorem vcl_13_43 (base : Nat) : pCL base 13 (43, 1, 156, 3) := fun _ q hq => by
  have hq2 : eMT1 156 = some q := hq
  cases (show eMT1 156 = some (em_156, 3) from rfl).symm.trans hq2
  exact ⟨yX12_room, cX12_room, (some .int), vm_156, ⟨by decide +kernel, Or.inr (Or.inl ⟨rfl, tbT 1667 (by decide +kernel) rfl, tbT 1668 (by decide +kernel) rfl, tbT 1669 (by decide +kernel) rfl⟩)⟩, fun _ => ⟨TX12, 55, rfl⟩⟩
theorem vcl_13_44 (base : Nat) : pCL base 13 (44, 1, 168, 1) := fun _ q hq => by
  have hq2 : eMT1 168 = some q := hq
  cases (show eMT1 168 = some (em_168, 1) from rfl).symm.trans hq2
  exact ⟨yX12_thrown, cX12_thrown, (some .int), vm_168, ⟨by decide +kernel, Or.inr (Or.inl ⟨rfl, tbT 1360 (by decide +kernel) rfl, tbT 1361 (by decide +kernel) rfl, tbT 1362 (by decide +kernel) rfl⟩)⟩, fun _ => ⟨TX12, 55, rfl⟩⟩
theorem vcl_13_47 (base : Nat) : pCL base 13 (47, 1, 85, 3) := fun _ q hq => by
  have hq2 : eMT1 85 = some q := hq
  cases (show eMT1 85 = some (em_85, 3) from rfl).symm.trans hq2
  exact ⟨yX11_owner, cX11_owner, (some .int), vm_85, ⟨by decide +kernel, Or.inr (Or.inl ⟨rfl, tbT 706 (by decide +kernel) rfl, tbT 707 (by decide +kernel) rfl, tbT 708 (by decide +kernel) rfl⟩)⟩, fun _ => ⟨TX11, 17, rfl⟩⟩
theorem vcl_13_50 (base : Nat) : pCL base 13 (50, 1, 149, 3) := fun _ q hq => by
  have hq2 : eMT1 149 = some q := hq
  cases (show eMT1 149 = some (em_149, 3) from rfl).symm.trans hq2
  exact ⟨yX12_owner, cX12_owner, (some .int), vm_149, ⟨by decide +kernel, Or.inr (Or.inl ⟨rfl, tbT 1691 (by decide +kernel) rfl, tbT 1692 (by decide +kernel) rfl, tbT 1693 (by decide +kernel) rfl⟩)⟩, fun _ => ⟨TX12, 55, rfl⟩⟩
theorem vcl_13_51 (base : Nat) : pCL base 13 (51, 1, 86, 3) := fun _ q hq => by
  have hq2 : eMT1 86 = some q := hq
  cases (show eMT1 86 = some (em_86, 3) from rfl).symm.trans hq2
  exact ⟨yX11_passage, cX11_passage, (some .int), vm_86, ⟨by decide +kernel, Or.inr (Or.inl ⟨rfl, tbT 730 (by decide +kernel) rfl, tbT 731 (by decide +kernel) rfl, tbT 732 (by decide +kernel) rfl⟩)⟩, fun _ => ⟨TX11, 17, rfl⟩⟩
theorem vcl_13_54 (base : Nat) : pCL base 13 (54, 1, 150, 3) := fun _ q hq => by
  have hq2 : eMT1 150 = some q := hq
  cases (show eMT1 150 = some (em_150, 3) from rfl).symm.trans hq2
  exact ⟨yX12_passage, cX12_passage, (some .int), vm_150, ⟨by decide +kernel, Or.inr (Or.inl ⟨rfl, tbT 1707 (by decide +kernel) rfl, tbT 1708 (by decide +kernel) rfl, tbT 1709 (by decide +kernel) rfl⟩)⟩, fun _ => ⟨TX12, 55, rfl⟩⟩
theorem vcl_13_55 (base : Nat) : pCL base 13 (55, 1, 83, 2) := fun _ q hq => by
  have hq2 : eMT1 83 = some q := hq
  cases (show eMT1 83 = some (em_83, 2) from rfl).symm.trans hq2
  exact ⟨yX11_now, cX11_now, (some .int), vm_83, ⟨by decide +kernel, Or.inr (Or.inl ⟨rfl, tbT 739 (by decide +kernel) rfl, tbT 740 (by decide +kernel) rfl, tbT 741 (by decide +kernel) rfl⟩)⟩, fun _ => ⟨TX11, 17, rfl⟩⟩
theorem vcl_13_59 (base : Nat) : pCL base 13 (59, 1, 146, 2) := fun _ q hq => by
  have hq2 : eMT1 146 = some q := hq
  cases (show eMT1 146 = some (em_146, 2) from rfl).symm.trans hq2
  exact ⟨yX12_now, cX12_now, (some .int), vm_146, ⟨by decide +kernel, Or.inr (Or.inl ⟨rfl, tbT 1715 (by decide +kernel) rfl, tbT 1716 (by decide +kernel) rfl, tbT 1717 (by decide +kernel) rfl⟩)⟩, fun _ => ⟨TX12, 55, rfl⟩⟩
theorem vcl_13_60 (base : Nat) : pCL base 13 (60, 1, 67, 3) := fun _ q hq => by
  have hq2 : eMT1 67 = some q := hq
  cases (show eMT1 67 = some (em_67, 3) from rfl).symm.trans hq2
  exact ⟨yX11_go, cX11_go, (some .int), vm_67, ⟨by decide +kernel, Or.inr (Or.inl ⟨rfl, tbT 757 (by decide +kernel) rfl, tbT 758 (by decide +kernel) rfl, tbT 759 (by decide +kernel) rfl⟩)⟩, fun _ => ⟨TX11, 17, rfl⟩⟩
theorem vcl_13_63 (base : Nat) : pCL base 13 (63, 1, 129, 3) := fun _ q hq => by
  have hq2 : eMT1 129 = some q := hq
  cases (show eMT1 129 = some (em_129, 4) from rfl).symm.trans hq2
  exact ⟨yX12_go, cX12_go, (some .int), vm_129, ⟨by decide +kernel, Or.inr (Or.inl ⟨rfl, tbT 1719 (by decide +kernel) rfl, tbT 1720 (by decide +kernel) rfl, tbT 1721 (by decide +kernel) rfl⟩)⟩, fun _ => ⟨TX12, 55, rfl⟩⟩
theorem vcl_13_64 (base : Nat) : pCL base 13 (64, 1, 79, 2) := fun _ q hq => by
  have hq2 : eMT1 79 = some q := hq
  cases (show eMT1 79 = some (em_79, 2) from rfl).symm.trans hq2
  exact ⟨yX11_leave, cX11_leave, (some .boolean), vm_79, ⟨by decide +kernel, Or.inr (Or.inl ⟨rfl, tbT 796 (by decide +kernel) rfl, tbT 797 (by decide +kernel) rfl, tbT 798 (by decide +kernel) rfl⟩)⟩, fun _ => ⟨TX11, 17, rfl⟩⟩
theorem vcl_13_67 (base : Nat) : pCL base 13 (67, 1, 141, 2) := fun _ q hq => by
  have hq2 : eMT1 141 = some q := hq
  cases (show eMT1 141 = some (em_141, 2) from rfl).symm.trans hq2
  exact ⟨yX12_leave, cX12_leave, (some .boolean), vm_141, ⟨by decide +kernel, Or.inr (Or.inl ⟨rfl, tbT 1743 (by decide +kernel) rfl, tbT 1744 (by decide +kernel) rfl, tbT 1745 (by decide +kernel) rfl⟩)⟩, fun _ => ⟨TX12, 55, rfl⟩⟩
theorem vcl_13_68 (base : Nat) : pCL base 13 (68, 1, 92, 4) := fun _ q hq => by
  have hq2 : eMT1 92 = some q := hq
  cases (show eMT1 92 = some (em_92, 4) from rfl).symm.trans hq2
  exact ⟨yX11_sell, cX11_sell, (some .int), vm_92, ⟨by decide +kernel, Or.inr (Or.inl ⟨rfl, tbT 800 (by decide +kernel) rfl, tbT 801 (by decide +kernel) rfl, tbT 802 (by decide +kernel) rfl⟩)⟩, fun _ => ⟨TX11, 17, rfl⟩⟩
theorem vcl_13_72 (base : Nat) : pCL base 13 (72, 1, 159, 4) := fun _ q hq => by
  have hq2 : eMT1 159 = some q := hq
  cases (show eMT1 159 = some (em_159, 5) from rfl).symm.trans hq2
  exact ⟨yX12_sell, cX12_sell, (some .int), vm_159, ⟨by decide +kernel, Or.inr (Or.inl ⟨rfl, tbT 1747 (by decide +kernel) rfl, tbT 1748 (by decide +kernel) rfl, tbT 1749 (by decide +kernel) rfl⟩)⟩, fun _ => ⟨TX12, 55, rfl⟩⟩
theorem vcl_13_73 (base : Nat) : pCL base 13 (73, 1, 80, 4) := fun _ q hq => by
  have hq2 : eMT1 80 = some q := hq
  cases (show eMT1 80 = some (em_80, 4) from rfl).symm.trans hq2
  exact ⟨yX11_let, cX11_let, (some .int), vm_80, ⟨by decide +kernel, Or.inr (Or.inl ⟨rfl, tbT 812 (by decide +kernel) rfl, tbT 813 (by decide +kernel) rfl, tbT 814 (by decide +kernel) rfl⟩)⟩, fun _ => ⟨TX11, 17, rfl⟩⟩
theorem vcl_13_76 (base : Nat) : pCL base 13 (76, 1, 142, 4) := fun _ q hq => by
  have hq2 : eMT1 142 = some q := hq
  cases (show eMT1 142 = some (em_142, 5) from rfl).symm.trans hq2
  exact ⟨yX12_let, cX12_let, (some .int), vm_142, ⟨by decide +kernel, Or.inr (Or.inl ⟨rfl, tbT 1763 (by decide +kernel) rfl, tbT 1764 (by decide +kernel) rfl, tbT 1765 (by decide +kernel) rfl⟩)⟩, fun _ => ⟨TX12, 55, rfl⟩⟩
theorem vcl_13_77 (base : Nat) : pCL base 13 (77, 1, 103, 3) := fun _ q hq => by
  have hq2 : eMT1 103 = some q := hq
  cases (show eMT1 103 = some (em_103, 3) from rfl).symm.trans hq2
  exact ⟨yX11_will, cX11_will, (some .int), vm_103, ⟨by decide +kernel, Or.inr (Or.inl ⟨rfl, tbT 823 (by decide +kernel) rfl, tbT 824 (by decide +kernel) rfl, tbT 825 (by decide +kernel) rfl⟩)⟩, fun _ => ⟨TX11, 17, rfl⟩⟩
theorem vcl_13_80 (base : Nat) : pCL base 13 (80, 1, 175, 3) := fun _ q hq => by
  have hq2 : eMT1 175 = some q := hq
  cases (show eMT1 175 = some (em_175, 4) from rfl).symm.trans hq2
  exact ⟨yX12_will, cX12_will, (some .int), vm_175, ⟨by decide +kernel, Or.inr (Or.inl ⟨rfl, tbT 1771 (by decide +kernel) rfl, tbT 1772 (by decide +kernel) rfl, tbT 1773 (by decide +kernel) rfl⟩)⟩, fun _ => ⟨TX12, 55, rfl⟩⟩
theorem vcl_13_81 (base : Nat) : pCL base 13 (81, 1, 60, 2) := fun _ q hq => by
  have hq2 : eMT1 60 = some q := hq
  cases (show eMT1 60 = some (em_60, 2) from rfl).symm.trans hq2
  exact ⟨yX11_die, cX11_die, (some .int), vm_60, ⟨by decide +kernel, Or.inr (Or.inl ⟨rfl, tbT 831 (by decide +kernel) rfl, tbT 832 (by decide +kernel) rfl, tbT 833 (by decide +kernel) rfl⟩)⟩, fun _ => ⟨TX11, 17, rfl⟩⟩
theorem vcl_13_84 (base : Nat) : pCL base 13 (84, 1, 120, 2) := fun _ q hq => by
  have hq2 : eMT1 120 = some q := hq
  cases (show eMT1 120 = some (em_120, 2) from rfl).symm.trans hq2
  exact ⟨yX12_die, cX12_die, (some .int), vm_120, ⟨by decide +kernel, Or.inr (Or.inl ⟨rfl, tbT 1779 (by decide +kernel) rfl, tbT 1780 (by decide +kernel) rfl, tbT 1781 (by decide +kernel) rfl⟩)⟩, fun _ => ⟨TX12, 55, rfl⟩⟩
theorem vcl_13_85 (base : Nat) : pCL base 13 (85, 1, 94, 3) := fun _ q hq => by
  have hq2 : eMT1 94 = some q := hq
  cases (show eMT1 94 = some (em_94, 3) from rfl).symm.trans hq2
  exact ⟨yX11_shut, cX11_shut, (some .int), vm_94, ⟨by decide +kernel, Or.inr (Or.inl ⟨rfl, tbT 843 (by decide +kernel) rfl, tbT 844 (by decide +kernel) rfl, tbT 845 (by decide +kernel) rfl⟩)⟩, fun _ => ⟨TX11, 17, rfl⟩⟩
theorem vcl_13_88 (base : Nat) : pCL base 13 (88, 1, 161, 3) := fun _ q hq => by
  have hq2 : eMT1 161 = some q := hq
  cases (show eMT1 161 = some (em_161, 4) from rfl).symm.trans hq2
  exact ⟨yX12_shut, cX12_shut, (some .int), vm_161, ⟨by decide +kernel, Or.inr (Or.inl ⟨rfl, tbT 1791 (by decide +kernel) rfl, tbT 1792 (by decide +kernel) rfl, tbT 1793 (by decide +kernel) rfl⟩)⟩, fun _ => ⟨TX12, 55, rfl⟩⟩
theorem vcl_13_89 (base : Nat) : pCL base 13 (89, 1, 56, 2) := fun _ q hq => by
  have hq2 : eMT1 56 = some q := hq
  cases (show eMT1 56 = some (em_56, 2) from rfl).symm.trans hq2
  exact ⟨yX11_burn, cX11_burn, (some .int), vm_56, ⟨by decide +kernel, Or.inr (Or.inl ⟨rfl, tbT 851 (by decide +kernel) rfl, tbT 852 (by decide +kernel) rfl, tbT 853 (by decide +kernel) rfl⟩)⟩, fun _ => ⟨TX11, 17, rfl⟩⟩
theorem vcl_13_92 (base : Nat) : pCL base 13 (92, 1, 114, 2) := fun _ q hq => by
  have hq2 : eMT1 114 = some q := hq
  cases (show eMT1 114 = some (em_114, 2) from rfl).symm.trans hq2
  exact ⟨yX12_burn, cX12_burn, (some .int), vm_114, ⟨by decide +kernel, Or.inr (Or.inl ⟨rfl, tbT 1799 (by decide +kernel) rfl, tbT 1800 (by decide +kernel) rfl, tbT 1801 (by decide +kernel) rfl⟩)⟩, fun _ => ⟨TX12, 55, rfl⟩⟩
theorem vcl_13_93 (base : Nat) : pCL base 13 (93, 1, 81, 2) := fun _ q hq => by
  have hq2 : eMT1 81 = some q := hq
  cases (show eMT1 81 = some (em_81, 3) from rfl).symm.trans hq2
  exact ⟨yX11_minutes, cX11_minutes, (some .int), vm_81, ⟨by decide +kernel, Or.inr (Or.inl ⟨rfl, tbT 860 (by decide +kernel) rfl, tbT 861 (by decide +kernel) rfl, tbT 862 (by decide +kernel) rfl⟩)⟩, fun _ => ⟨TX11, 17, rfl⟩⟩
theorem vcl_13_96 (base : Nat) : pCL base 13 (96, 1, 144, 2) := fun _ q hq => by
  have hq2 : eMT1 144 = some q := hq
  cases (show eMT1 144 = some (em_144, 3) from rfl).symm.trans hq2
  exact ⟨yX12_minutes, cX12_minutes, (some .int), vm_144, ⟨by decide +kernel, Or.inr (Or.inl ⟨rfl, tbT 1807 (by decide +kernel) rfl, tbT 1808 (by decide +kernel) rfl, tbT 1809 (by decide +kernel) rfl⟩)⟩, fun _ => ⟨TX12, 55, rfl⟩⟩
theorem vcl_13_97 (base : Nat) : pCL base 13 (97, 1, 99, 1) := fun _ q hq => by
  have hq2 : eMT1 99 = some q := hq
  cases (show eMT1 99 = some (em_99, 1) from rfl).symm.trans hq2
  exact ⟨yX11_undo, cX11_undo, (some .int), vm_99, ⟨by decide +kernel, Or.inr (Or.inl ⟨rfl, tbT 869 (by decide +kernel) rfl, tbT 870 (by decide +kernel) rfl, tbT 871 (by decide +kernel) rfl⟩)⟩, fun _ => ⟨TX11, 17, rfl⟩⟩
theorem vcl_13_100 (base : Nat) : pCL base 13 (100, 1, 171, 1) := fun _ q hq => by
  have hq2 : eMT1 171 = some q := hq
  cases (show eMT1 171 = some (em_171, 2) from rfl).symm.trans hq2
  exact ⟨yX12_undo, cX12_undo, (some .int), vm_171, ⟨by decide +kernel, Or.inr (Or.inl ⟨rfl, tbT 1823 (by decide +kernel) rfl, tbT 1824 (by decide +kernel) rfl, tbT 1825 (by decide +kernel) rfl⟩)⟩, fun _ => ⟨TX12, 55, rfl⟩⟩
theorem vcl_13_101 (base : Nat) : pCL base 13 (101, 1, 102, 3) := fun _ q hq => by
  have hq2 : eMT1 102 = some q := hq
  cases (show eMT1 102 = some (em_102, 4) from rfl).symm.trans hq2
  exact ⟨yX11_way, cX11_way, (some .int), vm_102, ⟨by decide +kernel, Or.inr (Or.inl ⟨rfl, tbT 905 (by decide +kernel) rfl, tbT 906 (by decide +kernel) rfl, tbT 907 (by decide +kernel) rfl⟩)⟩, fun _ => ⟨TX11, 17, rfl⟩⟩
theorem vcl_13_104 (base : Nat) : pCL base 13 (104, 1, 174, 3) := fun _ q hq => by
  have hq2 : eMT1 174 = some q := hq
  cases (show eMT1 174 = some (em_174, 5) from rfl).symm.trans hq2
  exact ⟨yX12_way, cX12_way, (some .int), vm_174, ⟨by decide +kernel, Or.inr (Or.inl ⟨rfl, tbT 1827 (by decide +kernel) rfl, tbT 1828 (by decide +kernel) rfl, tbT 1829 (by decide +kernel) rfl⟩)⟩, fun _ => ⟨TX12, 55, rfl⟩⟩
theorem vcl_13_105 (base : Nat) : pCL base 13 (105, 1, 96, 2) := fun _ q hq => by
  have hq2 : eMT1 96 = some q := hq
  cases (show eMT1 96 = some (em_96, 2) from rfl).symm.trans hq2
  exact ⟨yX11_step, cX11_step, (some .int), vm_96, ⟨by decide +kernel, Or.inr (Or.inl ⟨rfl, tbT 941 (by decide +kernel) rfl, tbT 942 (by decide +kernel) rfl, tbT 943 (by decide +kernel) rfl⟩)⟩, fun _ => ⟨TX11, 17, rfl⟩⟩
theorem vcl_13_108 (base : Nat) : pCL base 13 (108, 1, 164, 2) := fun _ q hq => by
  have hq2 : eMT1 164 = some q := hq
  cases (show eMT1 164 = some (em_164, 2) from rfl).symm.trans hq2
  exact ⟨yX12_step, cX12_step, (some .int), vm_164, ⟨by decide +kernel, Or.inr (Or.inl ⟨rfl, tbT 1843 (by decide +kernel) rfl, tbT 1844 (by decide +kernel) rfl, tbT 1845 (by decide +kernel) rfl⟩)⟩, fun _ => ⟨TX12, 55, rfl⟩⟩
theorem vcl_13_109 (base : Nat) : pCL base 13 (109, 1, 52, 2) := fun _ q hq => by
  have hq2 : eMT1 52 = some q := hq
  cases (show eMT1 52 = some (em_52, 2) from rfl).symm.trans hq2
  exact ⟨yX11_barred, cX11_barred, (some .int), vm_52, ⟨by decide +kernel, Or.inr (Or.inl ⟨rfl, tbT 945 (by decide +kernel) rfl, tbT 946 (by decide +kernel) rfl, tbT 947 (by decide +kernel) rfl⟩)⟩, fun _ => ⟨TX11, 17, rfl⟩⟩
theorem vcl_13_112 (base : Nat) : pCL base 13 (112, 1, 111, 2) := fun _ q hq => by
  have hq2 : eMT1 111 = some q := hq
  cases (show eMT1 111 = some (em_111, 4) from rfl).symm.trans hq2
  exact ⟨yX12_barred, cX12_barred, (some .int), vm_111, ⟨by decide +kernel, Or.inr (Or.inl ⟨rfl, tbT 1847 (by decide +kernel) rfl, tbT 1848 (by decide +kernel) rfl, tbT 1849 (by decide +kernel) rfl⟩)⟩, fun _ => ⟨TX12, 55, rfl⟩⟩
theorem vcl_13_113 (base : Nat) : pCL base 13 (113, 1, 51, 3) := fun _ q hq => by
  have hq2 : eMT1 51 = some q := hq
  cases (show eMT1 51 = some (em_51, 3) from rfl).symm.trans hq2
  exact ⟨yX11_asks, cX11_asks, (some .int), vm_51, ⟨by decide +kernel, Or.inr (Or.inl ⟨rfl, tbT 953 (by decide +kernel) rfl, tbT 954 (by decide +kernel) rfl, tbT 955 (by decide +kernel) rfl⟩)⟩, fun _ => ⟨TX11, 17, rfl⟩⟩
theorem vcl_13_116 (base : Nat) : pCL base 13 (116, 1, 108, 3) := fun _ q hq => by
  have hq2 : eMT1 108 = some q := hq
  cases (show eMT1 108 = some (em_108, 7) from rfl).symm.trans hq2
  exact ⟨yX12_asks, cX12_asks, (some .int), vm_108, ⟨by decide +kernel, Or.inr (Or.inl ⟨rfl, tbT 1851 (by decide +kernel) rfl, tbT 1852 (by decide +kernel) rfl, tbT 1853 (by decide +kernel) rfl⟩)⟩, fun _ => ⟨TX12, 55, rfl⟩⟩
theorem vcl_13_117 (base : Nat) : pCL base 13 (117, 1, 50, 1) := fun _ q hq => by
  have hq2 : eMT1 50 = some q := hq
  cases (show eMT1 50 = some (em_50, 1) from rfl).symm.trans hq2
  exact ⟨yX11_asked, cX11_asked, (some .int), vm_50, ⟨by decide +kernel, Or.inr (Or.inl ⟨rfl, tbT 963 (by decide +kernel) rfl, tbT 964 (by decide +kernel) rfl, tbT 965 (by decide +kernel) rfl⟩)⟩, fun _ => ⟨TX11, 17, rfl⟩⟩
theorem vcl_13_120 (base : Nat) : pCL base 13 (120, 1, 107, 1) := fun _ q hq => by
  have hq2 : eMT1 107 = some q := hq
  cases (show eMT1 107 = some (em_107, 1) from rfl).symm.trans hq2
  exact ⟨yX12_asked, cX12_asked, (some .int), vm_107, ⟨by decide +kernel, Or.inr (Or.inl ⟨rfl, tbT 1866 (by decide +kernel) rfl, tbT 1867 (by decide +kernel) rfl, tbT 1868 (by decide +kernel) rfl⟩)⟩, fun _ => ⟨TX12, 55, rfl⟩⟩
theorem vcl_13_121 (base : Nat) : pCL base 13 (121, 1, 98, 3) := fun _ q hq => by
  have hq2 : eMT1 98 = some q := hq
  cases (show eMT1 98 = some (em_98, 4) from rfl).symm.trans hq2
  exact ⟨yX11_through, cX11_through, (some .int), vm_98, ⟨by decide +kernel, Or.inr (Or.inl ⟨rfl, tbT 967 (by decide +kernel) rfl, tbT 968 (by decide +kernel) rfl, tbT 969 (by decide +kernel) rfl⟩)⟩, fun _ => ⟨TX11, 17, rfl⟩⟩
theorem vcl_13_124 (base : Nat) : pCL base 13 (124, 1, 167, 3) := fun _ q hq => by
  have hq2 : eMT1 167 = some q := hq
  cases (show eMT1 167 = some (em_167, 7) from rfl).symm.trans hq2
  exact ⟨yX12_through, cX12_through, (some .int), vm_167, ⟨by decide +kernel, Or.inr (Or.inl ⟨rfl, tbT 1870 (by decide +kernel) rfl, tbT 1871 (by decide +kernel) rfl, tbT 1872 (by decide +kernel) rfl⟩)⟩, fun _ => ⟨TX12, 55, rfl⟩⟩
theorem vcl_13_125 (base : Nat) : pCL base 13 (125, 1, 66, 2) := fun _ q hq => by
  have hq2 : eMT1 66 = some q := hq
  cases (show eMT1 66 = some (em_66, 2) from rfl).symm.trans hq2
  exact ⟨yX11_fire, cX11_fire, (some .int), vm_66, ⟨by decide +kernel, Or.inr (Or.inl ⟨rfl, tbT 995 (by decide +kernel) rfl, tbT 996 (by decide +kernel) rfl, tbT 997 (by decide +kernel) rfl⟩)⟩, fun _ => ⟨TX11, 17, rfl⟩⟩
theorem vcl_13_128 (base : Nat) : pCL base 13 (128, 1, 127, 2) := fun _ q hq => by
  have hq2 : eMT1 127 = some q := hq
  cases (show eMT1 127 = some (em_127, 3) from rfl).symm.trans hq2
  exact ⟨yX12_fire, cX12_fire, (some .int), vm_127, ⟨by decide +kernel, Or.inr (Or.inl ⟨rfl, tbT 1874 (by decide +kernel) rfl, tbT 1875 (by decide +kernel) rfl, tbT 1876 (by decide +kernel) rfl⟩)⟩, fun _ => ⟨TX12, 55, rfl⟩⟩
theorem vcl_13_129 (base : Nat) : pCL base 13 (129, 1, 95, 2) := fun _ q hq => by
  have hq2 : eMT1 95 = some q := hq
  cases (show eMT1 95 = some (em_95, 2) from rfl).symm.trans hq2
  exact ⟨yX11_spread, cX11_spread, (some .int), vm_95, ⟨by decide +kernel, Or.inr (Or.inl ⟨rfl, tbT 1005 (by decide +kernel) rfl, tbT 1006 (by decide +kernel) rfl, tbT 1007 (by decide +kernel) rfl⟩)⟩, fun _ => ⟨TX11, 17, rfl⟩⟩
theorem vcl_13_132 (base : Nat) : pCL base 13 (132, 1, 163, 2) := fun _ q hq => by
  have hq2 : eMT1 163 = some q := hq
  cases (show eMT1 163 = some (em_163, 2) from rfl).symm.trans hq2
  exact ⟨yX12_spread, cX12_spread, (some .int), vm_163, ⟨by decide +kernel, Or.inr (Or.inl ⟨rfl, tbT 1882 (by decide +kernel) rfl, tbT 1883 (by decide +kernel) rfl, tbT 1884 (by decide +kernel) rfl⟩)⟩, fun _ => ⟨TX12, 55, rfl⟩⟩
theorem vcl_13_133 (base : Nat) : pCL base 13 (133, 1, 59, 2) := fun _ q hq => by
  have hq2 : eMT1 59 = some q := hq
  cases (show eMT1 59 = some (em_59, 2) from rfl).symm.trans hq2
  exact ⟨yX11_cut, cX11_cut, (some .int), vm_59, ⟨by decide +kernel, Or.inr (Or.inl ⟨rfl, tbT 1013 (by decide +kernel) rfl, tbT 1014 (by decide +kernel) rfl, tbT 1015 (by decide +kernel) rfl⟩)⟩, fun _ => ⟨TX11, 17, rfl⟩⟩
theorem vcl_13_136 (base : Nat) : pCL base 13 (136, 1, 119, 2) := fun _ q hq => by
  have hq2 : eMT1 119 = some q := hq
  cases (show eMT1 119 = some (em_119, 4) from rfl).symm.trans hq2
  exact ⟨yX12_cut, cX12_cut, (some .int), vm_119, ⟨by decide +kernel, Or.inr (Or.inl ⟨rfl, tbT 1886 (by decide +kernel) rfl, tbT 1887 (by decide +kernel) rfl, tbT 1888 (by decide +kernel) rfl⟩)⟩, fun _ => ⟨TX12, 55, rfl⟩⟩
theorem vcl_13_137 (base : Nat) : pCL base 13 (137, 1, 63, 2) := fun _ q hq => by
  have hq2 : eMT1 63 = some q := hq
  cases (show eMT1 63 = some (em_63, 2) from rfl).symm.trans hq2
  exact ⟨yX11_exchange, cX11_exchange, (some .int), vm_63, ⟨by decide +kernel, Or.inr (Or.inl ⟨rfl, tbT 1031 (by decide +kernel) rfl, tbT 1032 (by decide +kernel) rfl, tbT 1033 (by decide +kernel) rfl⟩)⟩, fun _ => ⟨TX11, 17, rfl⟩⟩
theorem vcl_13_140 (base : Nat) : pCL base 13 (140, 1, 123, 2) := fun _ q hq => by
  have hq2 : eMT1 123 = some q := hq
  cases (show eMT1 123 = some (em_123, 2) from rfl).symm.trans hq2
  exact ⟨yX12_exchange, cX12_exchange, (some .int), vm_123, ⟨by decide +kernel, Or.inr (Or.inl ⟨rfl, tbT 1894 (by decide +kernel) rfl, tbT 1895 (by decide +kernel) rfl, tbT 1896 (by decide +kernel) rfl⟩)⟩, fun _ => ⟨TX12, 55, rfl⟩⟩
theorem vcl_13_141 (base : Nat) : pCL base 13 (141, 1, 90, 1) := fun _ q hq => by
  have hq2 : eMT1 90 = some q := hq
  cases (show eMT1 90 = some (em_90, 1) from rfl).symm.trans hq2
  exact ⟨yX11_rings, cX11_rings, (some .int), vm_90, ⟨by decide +kernel, Or.inr (Or.inl ⟨rfl, tbT 1063 (by decide +kernel) rfl, tbT 1064 (by decide +kernel) rfl, tbT 1065 (by decide +kernel) rfl⟩)⟩, fun _ => ⟨TX11, 17, rfl⟩⟩
theorem vcl_13_144 (base : Nat) : pCL base 13 (144, 1, 155, 1) := fun _ q hq => by
  have hq2 : eMT1 155 = some q := hq
  cases (show eMT1 155 = some (em_155, 1) from rfl).symm.trans hq2
  exact ⟨yX12_rings, cX12_rings, (some .int), vm_155, ⟨by decide +kernel, Or.inr (Or.inl ⟨rfl, tbT 1910 (by decide +kernel) rfl, tbT 1911 (by decide +kernel) rfl, tbT 1912 (by decide +kernel) rfl⟩)⟩, fun _ => ⟨TX12, 55, rfl⟩⟩
theorem vcl_13_145 (base : Nat) : pCL base 13 (145, 1, 88, 1) := fun _ q hq => by
  have hq2 : eMT1 88 = some q := hq
  cases (show eMT1 88 = some (em_88, 1) from rfl).symm.trans hq2
  exact ⟨yX11_prices, cX11_prices, (some .int), vm_88, ⟨by decide +kernel, Or.inr (Or.inl ⟨rfl, tbT 1067 (by decide +kernel) rfl, tbT 1068 (by decide +kernel) rfl, tbT 1069 (by decide +kernel) rfl⟩)⟩, fun _ => ⟨TX11, 17, rfl⟩⟩
theorem vcl_13_148 (base : Nat) : pCL base 13 (148, 1, 153, 1) := fun _ q hq => by
  have hq2 : eMT1 153 = some q := hq
  cases (show eMT1 153 = some (em_153, 4) from rfl).symm.trans hq2
  exact ⟨yX12_prices, cX12_prices, (some .int), vm_153, ⟨by decide +kernel, Or.inr (Or.inl ⟨rfl, tbT 1914 (by decide +kernel) rfl, tbT 1915 (by decide +kernel) rfl, tbT 1916 (by decide +kernel) rfl⟩)⟩, fun _ => ⟨TX12, 55, rfl⟩⟩
theorem vcl_13_149 (base : Nat) : pCL base 13 (149, 1, 87, 2) := fun _ q hq => by
  have hq2 : eMT1 87 = some q := hq
  cases (show eMT1 87 = some (em_87, 2) from rfl).symm.trans hq2
  exact ⟨yX11_price, cX11_price, (some .int), vm_87, ⟨by decide +kernel, Or.inr (Or.inl ⟨rfl, tbT 1087 (by decide +kernel) rfl, tbT 1088 (by decide +kernel) rfl, tbT 1089 (by decide +kernel) rfl⟩)⟩, fun _ => ⟨TX11, 17, rfl⟩⟩
theorem vcl_13_152 (base : Nat) : pCL base 13 (152, 1, 152, 2) := fun _ q hq => by
  have hq2 : eMT1 152 = some q := hq
  cases (show eMT1 152 = some (em_152, 2) from rfl).symm.trans hq2
  exact ⟨yX12_price, cX12_price, (some .int), vm_152, ⟨by decide +kernel, Or.inr (Or.inl ⟨rfl, tbT 1922 (by decide +kernel) rfl, tbT 1923 (by decide +kernel) rfl, tbT 1924 (by decide +kernel) rfl⟩)⟩, fun _ => ⟨TX12, 55, rfl⟩⟩
theorem vcl_13_153 (base : Nat) : pCL base 13 (153, 1, 101, 2) := fun _ q hq => by
  have hq2 : eMT1 101 = some q := hq
  cases (show eMT1 101 = some (em_101, 2) from rfl).symm.trans hq2
  exact ⟨yX11_wants, cX11_wants, (some .int), vm_101, ⟨by decide +kernel, Or.inr (Or.inl ⟨rfl, tbT 1091 (by decide +kernel) rfl, tbT 1092 (by decide +kernel) rfl, tbT 1093 (by decide +kernel) rfl⟩)⟩, fun _ => ⟨TX11, 17, rfl⟩⟩
theorem vcl_13_156 (base : Nat) : pCL base 13 (156, 1, 173, 2) := fun _ q hq => by
  have hq2 : eMT1 173 = some q := hq
  cases (show eMT1 173 = some (em_173, 2) from rfl).symm.trans hq2
  exact ⟨yX12_wants, cX12_wants, (some .int), vm_173, ⟨by decide +kernel, Or.inr (Or.inl ⟨rfl, tbT 1926 (by decide +kernel) rfl, tbT 1927 (by decide +kernel) rfl, tbT 1928 (by decide +kernel) rfl⟩)⟩, fun _ => ⟨TX12, 55, rfl⟩⟩
theorem vcl_13_157 (base : Nat) : pCL base 13 (157, 1, 100, 1) := fun _ q hq => by
  have hq2 : eMT1 100 = some q := hq
  cases (show eMT1 100 = some (em_100, 2) from rfl).symm.trans hq2
  exact ⟨yX11_walked, cX11_walked, (some .int), vm_100, ⟨by decide +kernel, Or.inr (Or.inl ⟨rfl, tbT 975 (by decide +kernel) rfl, tbT 976 (by decide +kernel) rfl, tbT 977 (by decide +kernel) rfl⟩)⟩, fun _ => ⟨TX11, 17, rfl⟩⟩
theorem vcl_13_160 (base : Nat) : pCL base 13 (160, 1, 172, 1) := fun _ q hq => by
  have hq2 : eMT1 172 = some q := hq
  cases (show eMT1 172 = some (em_172, 5) from rfl).symm.trans hq2
  exact ⟨yX12_walked, cX12_walked, (some .int), vm_172, ⟨by decide +kernel, Or.inr (Or.inl ⟨rfl, tbT 1930 (by decide +kernel) rfl, tbT 1931 (by decide +kernel) rfl, tbT 1932 (by decide +kernel) rfl⟩)⟩, fun _ => ⟨TX12, 55, rfl⟩⟩
theorem vcl_13_161 (base : Nat) : pCL base 13 (161, 1, 57, 2) := fun _ q hq => by
  have hq2 : eMT1 57 = some q := hq
  cases (show eMT1 57 = some (em_57, 4) from rfl).symm.trans hq2
  exact ⟨yX11_corridor, cX11_corridor, (some .int), vm_57, ⟨by decide +kernel, Or.inr (Or.inl ⟨rfl, tbT 1095 (by decide +kernel) rfl, tbT 1096 (by decide +kernel) rfl, tbT 1097 (by decide +kernel) rfl⟩)⟩, fun _ => ⟨TX11, 17, rfl⟩⟩
theorem vcl_13_164 (base : Nat) : pCL base 13 (164, 1, 117, 2) := fun _ q hq => by
  have hq2 : eMT1 117 = some q := hq
  cases (show eMT1 117 = some (em_117, 4) from rfl).symm.trans hq2
  exact ⟨yX12_corridor, cX12_corridor, (some .int), vm_117, ⟨by decide +kernel, Or.inr (Or.inl ⟨rfl, tbT 1938 (by decide +kernel) rfl, tbT 1939 (by decide +kernel) rfl, tbT 1940 (by decide +kernel) rfl⟩)⟩, fun _ => ⟨TX12, 55, rfl⟩⟩
theorem vcl_13_165 (base : Nat) : pCL base 13 (165, 1, 70, 2) := fun _ q hq => by
  have hq2 : eMT1 70 = some q := hq
  cases (show eMT1 70 = some (em_70, 2) from rfl).symm.trans hq2
  exact ⟨yX11_heir, cX11_heir, (some .int), vm_70, ⟨by decide +kernel, Or.inr (Or.inl ⟨rfl, tbT 1103 (by decide +kernel) rfl, tbT 1104 (by decide +kernel) rfl, tbT 1105 (by decide +kernel) rfl⟩)⟩, fun _ => ⟨TX11, 17, rfl⟩⟩
theorem vcl_13_168 (base : Nat) : pCL base 13 (168, 1, 131, 2) := fun _ q hq => by
  have hq2 : eMT1 131 = some q := hq
  cases (show eMT1 131 = some (em_131, 2) from rfl).symm.trans hq2
  exact ⟨yX12_heir, cX12_heir, (some .int), vm_131, ⟨by decide +kernel, Or.inr (Or.inl ⟨rfl, tbT 1942 (by decide +kernel) rfl, tbT 1943 (by decide +kernel) rfl, tbT 1944 (by decide +kernel) rfl⟩)⟩, fun _ => ⟨TX12, 55, rfl⟩⟩
theorem vcl_13_169 (base : Nat) : pCL base 13 (169, 1, 68, 2) := fun _ q hq => by
  have hq2 : eMT1 68 = some q := hq
  cases (show eMT1 68 = some (em_68, 5) from rfl).symm.trans hq2
  exact ⟨yX11_guests, cX11_guests, (some .int), vm_68, ⟨by decide +kernel, Or.inr (Or.inl ⟨rfl, tbT 1108 (by decide +kernel) rfl, tbT 1109 (by decide +kernel) rfl, tbT 1110 (by decide +kernel) rfl⟩)⟩, fun _ => ⟨TX11, 17, rfl⟩⟩
theorem vcl_13_172 (base : Nat) : pCL base 13 (172, 1, 130, 2) := fun _ q hq => by
  have hq2 : eMT1 130 = some q := hq
  cases (show eMT1 130 = some (em_130, 7) from rfl).symm.trans hq2
  exact ⟨yX12_guests, cX12_guests, (some .int), vm_130, ⟨by decide +kernel, Or.inr (Or.inl ⟨rfl, tbT 1946 (by decide +kernel) rfl, tbT 1947 (by decide +kernel) rfl, tbT 1948 (by decide +kernel) rfl⟩)⟩, fun _ => ⟨TX12, 55, rfl⟩⟩
theorem vcl_13_173 (base : Nat) : pCL base 13 (173, 1, 82, 1) := fun _ q hq => by
  have hq2 : eMT1 82 = some q := hq
  cases (show eMT1 82 = some (em_82, 3) from rfl).symm.trans hq2
  exact ⟨yX11_mixed, cX11_mixed, (some .int), vm_82, ⟨by decide +kernel, Or.inr (Or.inl ⟨rfl, tbT 1120 (by decide +kernel) rfl, tbT 1121 (by decide +kernel) rfl, tbT 1122 (by decide +kernel) rfl⟩)⟩, fun _ => ⟨TX11, 17, rfl⟩⟩
theorem vcl_13_176 (base : Nat) : pCL base 13 (176, 1, 145, 1) := fun _ q hq => by
  have hq2 : eMT1 145 = some q := hq
  cases (show eMT1 145 = some (em_145, 6) from rfl).symm.trans hq2
  exact ⟨yX12_mixed, cX12_mixed, (some .int), vm_145, ⟨by decide +kernel, Or.inr (Or.inl ⟨rfl, tbT 1954 (by decide +kernel) rfl, tbT 1955 (by decide +kernel) rfl, tbT 1956 (by decide +kernel) rfl⟩)⟩, fun _ => ⟨TX12, 55, rfl⟩⟩
theorem vcl_13_177 (base : Nat) : pCL base 13 (177, 1, 61, 3) := fun _ q hq => by
  have hq2 : eMT1 61 = some q := hq
  cases (show eMT1 61 = some (em_61, 4) from rfl).symm.trans hq2
  exact ⟨yX11_drawn, cX11_drawn, (some .int), vm_61, ⟨by decide +kernel, Or.inr (Or.inl ⟨rfl, tbT 877 (by decide +kernel) rfl, tbT 878 (by decide +kernel) rfl, tbT 879 (by decide +kernel) rfl⟩)⟩, fun _ => ⟨TX11, 17, rfl⟩⟩
theorem vcl_13_180 (base : Nat) : pCL base 13 (180, 1, 121, 3) := fun _ q hq => by
  have hq2 : eMT1 121 = some q := hq
  cases (show eMT1 121 = some (em_121, 3) from rfl).symm.trans hq2
  exact ⟨yX12_drawn, cX12_drawn, (some .int), vm_121, ⟨by decide +kernel, Or.inr (Or.inl ⟨rfl, tbT 1958 (by decide +kernel) rfl, tbT 1959 (by decide +kernel) rfl, tbT 1960 (by decide +kernel) rfl⟩)⟩, fun _ => ⟨TX12, 55, rfl⟩⟩
theorem vcl_13_181 (base : Nat) : pCL base 13 (181, 1, 84, 4) := fun _ q hq => by
  have hq2 : eMT1 84 = some q := hq
  cases (show eMT1 84 = some (em_84, 7) from rfl).symm.trans hq2
  exact ⟨yX11_odds, cX11_odds, (some .int), vm_84, ⟨by decide +kernel, Or.inr (Or.inl ⟨rfl, tbT 901 (by decide +kernel) rfl, tbT 902 (by decide +kernel) rfl, tbT 903 (by decide +kernel) rfl⟩)⟩, fun _ => ⟨TX11, 17, rfl⟩⟩
theorem vcl_13_184 (base : Nat) : pCL base 13 (184, 1, 147, 4) := fun _ q hq => by
  have hq2 : eMT1 147 = some q := hq
  cases (show eMT1 147 = some (em_147, 6) from rfl).symm.trans hq2
  exact ⟨yX12_odds, cX12_odds, (some .int), vm_147, ⟨by decide +kernel, Or.inr (Or.inl ⟨rfl, tbT 1975 (by decide +kernel) rfl, tbT 1976 (by decide +kernel) rfl, tbT 1977 (by decide +kernel) rfl⟩)⟩, fun _ => ⟨TX12, 55, rfl⟩⟩
theorem vcl_13_185 (base : Nat) : pCL base 13 (185, 1, 54, 2) := fun _ q hq => by
  have hq2 : eMT1 54 = some q := hq
  cases (show eMT1 54 = some (em_54, 3) from rfl).symm.trans hq2
  exact ⟨yX11_book, cX11_book, (some .int), vm_54, ⟨by decide +kernel, Or.inr (Or.inl ⟨rfl, tbT 1132 (by decide +kernel) rfl, tbT 1133 (by decide +kernel) rfl, tbT 1134 (by decide +kernel) rfl⟩)⟩, fun _ => ⟨TX11, 17, rfl⟩⟩
theorem vcl_13_188 (base : Nat) : pCL base 13 (188, 1, 112, 2) := fun _ q hq => by
  have hq2 : eMT1 112 = some q := hq
  cases (show eMT1 112 = some (em_112, 7) from rfl).symm.trans hq2
  exact ⟨yX12_book, cX12_book, (some .int), vm_112, ⟨by decide +kernel, Or.inr (Or.inl ⟨rfl, tbT 1979 (by decide +kernel) rfl, tbT 1980 (by decide +kernel) rfl, tbT 1981 (by decide +kernel) rfl⟩)⟩, fun _ => ⟨TX12, 55, rfl⟩⟩
theorem vcl_13_189 (base : Nat) : pCL base 13 (189, 1, 55, 2) := fun _ q hq => by
  have hq2 : eMT1 55 = some q := hq
  cases (show eMT1 55 = some (em_55, 2) from rfl).symm.trans hq2
  exact ⟨yX11_booked, cX11_booked, (some .int), vm_55, ⟨by decide +kernel, Or.inr (Or.inl ⟨rfl, tbT 1189 (by decide +kernel) rfl, tbT 1190 (by decide +kernel) rfl, tbT 1191 (by decide +kernel) rfl⟩)⟩, fun _ => ⟨TX11, 17, rfl⟩⟩
theorem vcl_13_192 (base : Nat) : pCL base 13 (192, 1, 113, 2) := fun _ q hq => by
  have hq2 : eMT1 113 = some q := hq
  cases (show eMT1 113 = some (em_113, 2) from rfl).symm.trans hq2
  exact ⟨yX12_booked, cX12_booked, (some .int), vm_113, ⟨by decide +kernel, Or.inr (Or.inl ⟨rfl, tbT 1999 (by decide +kernel) rfl, tbT 2000 (by decide +kernel) rfl, tbT 2001 (by decide +kernel) rfl⟩)⟩, fun _ => ⟨TX12, 55, rfl⟩⟩
theorem vcl_13_193 (base : Nat) : pCL base 13 (193, 1, 93, 1) := fun _ q hq => by
  have hq2 : eMT1 93 = some q := hq
  cases (show eMT1 93 = some (em_93, 2) from rfl).symm.trans hq2
  exact ⟨yX11_sentence, cX11_sentence, (some .int), vm_93, ⟨by decide +kernel, Or.inr (Or.inl ⟨rfl, tbT 1193 (by decide +kernel) rfl, tbT 1194 (by decide +kernel) rfl, tbT 1195 (by decide +kernel) rfl⟩)⟩, fun _ => ⟨TX11, 17, rfl⟩⟩
theorem vcl_13_196 (base : Nat) : pCL base 13 (196, 1, 160, 1) := fun _ q hq => by
  have hq2 : eMT1 160 = some q := hq
  cases (show eMT1 160 = some (em_160, 3) from rfl).symm.trans hq2
  exact ⟨yX12_sentence, cX12_sentence, (some .int), vm_160, ⟨by decide +kernel, Or.inr (Or.inl ⟨rfl, tbT 2003 (by decide +kernel) rfl, tbT 2004 (by decide +kernel) rfl, tbT 2005 (by decide +kernel) rfl⟩)⟩, fun _ => ⟨TX12, 55, rfl⟩⟩
theorem vcl_13_197 (base : Nat) : pCL base 13 (197, 1, 91, 2) := fun _ q hq => by
  have hq2 : eMT1 91 = some q := hq
  cases (show eMT1 91 = some (em_91, 5) from rfl).symm.trans hq2
  exact ⟨yX11_said, cX11_said, (some .int), vm_91, ⟨by decide +kernel, Or.inr (Or.inl ⟨rfl, tbT 1235 (by decide +kernel) rfl, tbT 1236 (by decide +kernel) rfl, tbT 1237 (by decide +kernel) rfl⟩)⟩, fun _ => ⟨TX11, 17, rfl⟩⟩
theorem vcl_13_200 (base : Nat) : pCL base 13 (200, 1, 158, 2) := fun _ q hq => by
  have hq2 : eMT1 158 = some q := hq
  cases (show eMT1 158 = some (em_158, 4) from rfl).symm.trans hq2
  exact ⟨yX12_said, cX12_said, (some .int), vm_158, ⟨by decide +kernel, Or.inr (Or.inl ⟨rfl, tbT 2031 (by decide +kernel) rfl, tbT 2032 (by decide +kernel) rfl, tbT 2033 (by decide +kernel) rfl⟩)⟩, fun _ => ⟨TX12, 55, rfl⟩⟩
theorem vcl_13_201 (base : Nat) : pCL base 13 (201, 1, 71, 2) := fun _ q hq => by
  have hq2 : eMT1 71 = some q := hq
  cases (show eMT1 71 = some (em_71, 2) from rfl).symm.trans hq2
  exact ⟨yX11_image, cX11_image, (some .boolean), vm_71, ⟨by decide +kernel, Or.inr (Or.inl ⟨rfl, tbT 1277 (by decide +kernel) rfl, tbT 1278 (by decide +kernel) rfl, tbT 1279 (by decide +kernel) rfl⟩)⟩, fun _ => ⟨TX11, 17, rfl⟩⟩
theorem vcl_13_204 (base : Nat) : pCL base 13 (204, 1, 132, 2) := fun _ q hq => by
  have hq2 : eMT1 132 = some q := hq
  cases (show eMT1 132 = some (em_132, 3) from rfl).symm.trans hq2
  exact ⟨yX12_image, cX12_image, (some .boolean), vm_132, ⟨by decide +kernel, Or.inr (Or.inl ⟨rfl, tbT 2047 (by decide +kernel) rfl, tbT 2048 (by decide +kernel) rfl, tbT 2049 (by decide +kernel) rfl⟩)⟩, fun _ => ⟨TX12, 55, rfl⟩⟩
theorem vcl_13_205 (base : Nat) : pCL base 13 (205, 1, 89, 2) := fun _ q hq => by
  have hq2 : eMT1 89 = some q := hq
  cases (show eMT1 89 = some (em_89, 2) from rfl).symm.trans hq2
  exact ⟨yX11_restore, cX11_restore, (some .boolean), vm_89, ⟨by decide +kernel, Or.inr (Or.inl ⟨rfl, tbT 1281 (by decide +kernel) rfl, tbT 1282 (by decide +kernel) rfl, tbT 1283 (by decide +kernel) rfl⟩)⟩, fun _ => ⟨TX11, 17, rfl⟩⟩
theorem vcl_13_208 (base : Nat) : pCL base 13 (208, 1, 154, 2) := fun _ q hq => by
  have hq2 : eMT1 154 = some q := hq
  cases (show eMT1 154 = some (em_154, 3) from rfl).symm.trans hq2
  exact ⟨yX12_restore, cX12_restore, (some .boolean), vm_154, ⟨by decide +kernel, Or.inr (Or.inl ⟨rfl, tbT 2051 (by decide +kernel) rfl, tbT 2052 (by decide +kernel) rfl, tbT 2053 (by decide +kernel) rfl⟩)⟩, fun _ => ⟨TX12, 55, rfl⟩⟩
theorem vcl_13_209 (base : Nat) : pCL base 13 (209, 1, 58, 2) := fun _ q hq => by
  have hq2 : eMT1 58 = some q := hq
  cases (show eMT1 58 = some (em_58, 2) from rfl).symm.trans hq2
  exact ⟨yX11_count, cX11_count, (some .int), vm_58, ⟨by decide +kernel, Or.inr (Or.inl ⟨rfl, tbT 747 (by decide +kernel) rfl, tbT 748 (by decide +kernel) rfl, tbT 749 (by decide +kernel) rfl⟩)⟩, fun _ => ⟨TX11, 17, rfl⟩⟩
theorem vcl_13_212 (base : Nat) : pCL base 13 (212, 1, 118, 2) := fun _ q hq => by
  have hq2 : eMT1 118 = some q := hq
  cases (show eMT1 118 = some (em_118, 2) from rfl).symm.trans hq2
  exact ⟨yX12_count, cX12_count, (some .int), vm_118, ⟨by decide +kernel, Or.inr (Or.inl ⟨rfl, tbT 2055 (by decide +kernel) rfl, tbT 2056 (by decide +kernel) rfl, tbT 2057 (by decide +kernel) rfl⟩)⟩, fun _ => ⟨TX12, 55, rfl⟩⟩
theorem vcl_13 (base : Nat) : ∀ x ∈ ecl__13, pCL base 13 x := List.forall_mem_cons.mpr ⟨(vcl_13_15 base), List.forall_mem_cons.mpr ⟨(vcl_13_18 base), List.forall_mem_cons.mpr ⟨(vcl_13_19 base), List.forall_mem_cons.mpr ⟨(vcl_13_23 base), List.forall_mem_cons.mpr ⟨(vcl_13_24 base), List.forall_mem_cons.mpr ⟨(vcl_13_28 base), List.forall_mem_cons.mpr ⟨(vcl_13_29 base), List.forall_mem_cons.mpr ⟨(vcl_13_33 base), List.forall_mem_cons.mpr ⟨(vcl_13_34 base), List.forall_mem_cons.mpr ⟨(vcl_13_37 base), List.forall_mem_cons.mpr ⟨(vcl_13_38 base), List.forall_mem_cons.mpr ⟨(vcl_13_43 base), List.forall_mem_cons.mpr ⟨(vcl_13_44 base), List.forall_mem_cons.mpr ⟨(vcl_13_47 base), List.forall_mem_cons.mpr ⟨(vcl_13_50 base), List.forall_mem_cons.mpr ⟨(vcl_13_51 base), List.forall_mem_cons.mpr ⟨(vcl_13_54 base), List.forall_mem_cons.mpr ⟨(vcl_13_55 base), List.forall_mem_cons.mpr ⟨(vcl_13_59 base), List.forall_mem_cons.mpr ⟨(vcl_13_60 base), List.forall_mem_cons.mpr ⟨(vcl_13_63 base), List.forall_mem_cons.mpr ⟨(vcl_13_64 base), List.forall_mem_cons.mpr ⟨(vcl_13_67 base), List.forall_mem_cons.mpr ⟨(vcl_13_68 base), List.forall_mem_cons.mpr ⟨(vcl_13_72 base), List.forall_mem_cons.mpr ⟨(vcl_13_73 base), List.forall_mem_cons.mpr ⟨(vcl_13_76 base), List.forall_mem_cons.mpr ⟨(vcl_13_77 base), List.forall_mem_cons.mpr ⟨(vcl_13_80 base), List.forall_mem_cons.mpr ⟨(vcl_13_81 base), List.forall_mem_cons.mpr ⟨(vcl_13_84 base), List.forall_mem_cons.mpr ⟨(vcl_13_85 base), List.forall_mem_cons.mpr ⟨(vcl_13_88 base), List.forall_mem_cons.mpr ⟨(vcl_13_89 base), List.forall_mem_cons.mpr ⟨(vcl_13_92 base), List.forall_mem_cons.mpr ⟨(vcl_13_93 base), List.forall_mem_cons.mpr ⟨(vcl_13_96 base), List.forall_mem_cons.mpr ⟨(vcl_13_97 base), List.forall_mem_cons.mpr ⟨(vcl_13_100 base), List.forall_mem_cons.mpr ⟨(vcl_13_101 base), List.forall_mem_cons.mpr ⟨(vcl_13_104 base), List.forall_mem_cons.mpr ⟨(vcl_13_105 base), List.forall_mem_cons.mpr ⟨(vcl_13_108 base), List.forall_mem_cons.mpr ⟨(vcl_13_109 base), List.forall_mem_cons.mpr ⟨(vcl_13_112 base), List.forall_mem_cons.mpr ⟨(vcl_13_113 base), List.forall_mem_cons.mpr ⟨(vcl_13_116 base), List.forall_mem_cons.mpr ⟨(vcl_13_117 base), List.forall_mem_cons.mpr ⟨(vcl_13_120 base), List.forall_mem_cons.mpr ⟨(vcl_13_121 base), List.forall_mem_cons.mpr ⟨(vcl_13_124 base), List.forall_mem_cons.mpr ⟨(vcl_13_125 base), List.forall_mem_cons.mpr ⟨(vcl_13_128 base), List.forall_mem_cons.mpr ⟨(vcl_13_129 base), List.forall_mem_cons.mpr ⟨(vcl_13_132 base), List.forall_mem_cons.mpr ⟨(vcl_13_133 base), List.forall_mem_cons.mpr ⟨(vcl_13_136 base), List.forall_mem_cons.mpr ⟨(vcl_13_137 base), List.forall_mem_cons.mpr ⟨(vcl_13_140 base), List.forall_mem_cons.mpr ⟨(vcl_13_141 base), List.forall_mem_cons.mpr ⟨(vcl_13_144 base), List.forall_mem_cons.mpr ⟨(vcl_13_145 base), List.forall_mem_cons.mpr ⟨(vcl_13_148 base), List.forall_mem_cons.mpr ⟨(vcl_13_149 base), List.forall_mem_cons.mpr ⟨(vcl_13_152 base), List.forall_mem_cons.mpr ⟨(vcl_13_153 base), List.forall_mem_cons.mpr ⟨(vcl_13_156 base), List.forall_mem_cons.mpr ⟨(vcl_13_157 base), List.forall_mem_cons.mpr ⟨(vcl_13_160 base), List.forall_mem_cons.mpr ⟨(vcl_13_161 base), List.forall_mem_cons.mpr ⟨(vcl_13_164 base), List.forall_mem_cons.mpr ⟨(vcl_13_165 base), List.forall_mem_cons.mpr ⟨(vcl_13_168 base), List.forall_mem_cons.mpr ⟨(vcl_13_169 base), List.forall_mem_cons.mpr ⟨(vcl_13_172 base), List.forall_mem_cons.mpr ⟨(vcl_13_173 base), List.forall_mem_cons.mpr ⟨(vcl_13_176 base), List.forall_mem_cons.mpr ⟨(vcl_13_177 base), List.forall_mem_cons.mpr ⟨(vcl_13_180 base), List.forall_mem_cons.mpr ⟨(vcl_13_181 base), List.forall_mem_cons.mpr ⟨(vcl_13_184 base), List.forall_mem_cons.mpr ⟨(vcl_13_185 base), List.forall_mem_cons.mpr ⟨(vcl_13_188 base), List.forall_mem_cons.mpr ⟨(vcl_13_189 base), List.forall_mem_cons.mpr ⟨(vcl_13_192 base), List.forall_mem_cons.mpr ⟨(vcl_13_193 base), List.forall_mem_cons.mpr ⟨(vcl_13_196 base), List.forall_mem_cons.mpr ⟨(vcl_13_197 base), List.forall_mem_cons.mpr ⟨(vcl_13_200 base), List.forall_mem_cons.mpr ⟨(vcl_13_201 base), List.forall_mem_cons.mpr ⟨(vcl_13_204 base), List.forall_mem_cons.mpr ⟨(vcl_13_205 base), List.forall_mem_cons.mpr ⟨(vcl_13_208 base), List.forall_mem_cons.mpr ⟨(vcl_13_209 base), List.forall_mem_cons.mpr ⟨(vcl_13_212 base), fun _ h => absurd h List.not_mem_nil⟩⟩⟩⟩⟩⟩⟩⟩⟩⟩⟩⟩⟩⟩⟩⟩⟩⟩⟩⟩⟩⟩⟩⟩⟩⟩⟩⟩⟩⟩⟩⟩⟩⟩⟩⟩⟩⟩⟩⟩⟩⟩⟩⟩⟩⟩⟩⟩⟩⟩⟩⟩⟩⟩⟩⟩⟩⟩⟩⟩⟩⟩⟩⟩⟩⟩⟩⟩⟩⟩⟩⟩⟩⟩⟩⟩⟩⟩⟩⟩⟩⟩⟩⟩⟩⟩⟩⟩⟩⟩⟩⟩⟩⟩⟩
theorem vcl_14 (base : Nat) : ∀ x ∈ ecl__14, pCL base 14 x := fun _ h => absurd h List.not_mem_nil
theorem vcl_15 (base : Nat) : ∀ x ∈ ecl__15, pCL base 15 x := fun _ h => absurd h List.not_mem_nil
theorem vcl_16 (base : Nat) : ∀ x ∈ ecl__16, pCL base 16 x := fun _ h => absurd h List.not_mem_nil
theorem vcl (base : Nat) : eAll (pCL base) 0 ecl_ := ⟨(vcl_0 base), (vcl_1 base), (vcl_2 base), (vcl_3 base), (vcl_4 base), (vcl_5 base), (vcl_6 base), (vcl_7 base), (vcl_8 base), (vcl_9 base), (vcl_10 base), (vcl_11 base), (vcl_12 base), (vcl_13 base), (vcl_14 base), (vcl_15 base), (vcl_16 base), trivial⟩
theorem v_CL (base : Nat) : eCok vwCl Tb1 (NF1 base) eCN eCL1 eMT1 := fun o idx kd mno n h => ea2_all (P := pCL base) (vcl base) h
def pOb (o : Nat) (x : Nat × Nat × Nat × Nat) : Prop := (x.2.1 = 6 → Cond.methodLink (eCN o) x.1 objectInit ∈ Tb1) ∧ (x.2.1 = 7 → Cond.methodLink (eCN o) x.1 arraycopyName ∈ Tb1)
theorem vob_0_3 : pOb 0 (3, 6, 0, 1) := ⟨fun _ => tbT 324 (by decide +kernel) rfl, fun h => absurd h (by decide)⟩
theorem vob_0_28 : pOb 0 (28, 1, 35, 2) := ⟨fun h => absurd h (by decide), fun h => absurd h (by decide)⟩
theorem vob_0 : ∀ x ∈ ecl__0, pOb 0 x := List.forall_mem_cons.mpr ⟨vob_0_3, List.forall_mem_cons.mpr ⟨vob_0_28, fun _ h => absurd h List.not_mem_nil⟩⟩
theorem vob_1_3 : pOb 1 (3, 6, 0, 1) := ⟨fun _ => tbT 198 (by decide +kernel) rfl, fun h => absurd h (by decide)⟩
theorem vob_1_27 : pOb 1 (27, 0, 180, 2) := ⟨fun h => absurd h (by decide), fun h => absurd h (by decide)⟩
theorem vob_1_49 : pOb 1 (49, 7, 0, 5) := ⟨fun h => absurd h (by decide), fun _ => tbT 693 (by decide +kernel) rfl⟩
theorem vob_1_59 : pOb 1 (59, 3, 53, 1) := ⟨fun h => absurd h (by decide), fun h => absurd h (by decide)⟩
theorem vob_1 : ∀ x ∈ ecl__1, pOb 1 x := List.forall_mem_cons.mpr ⟨vob_1_3, List.forall_mem_cons.mpr ⟨vob_1_27, List.forall_mem_cons.mpr ⟨vob_1_49, List.forall_mem_cons.mpr ⟨vob_1_59, fun _ h => absurd h List.not_mem_nil⟩⟩⟩⟩
theorem vob_2_3 : pOb 2 (3, 6, 0, 1) := ⟨fun _ => tbT 443 (by decide +kernel) rfl, fun h => absurd h (by decide)⟩
theorem vob_2 : ∀ x ∈ ecl__2, pOb 2 x := List.forall_mem_cons.mpr ⟨vob_2_3, fun _ h => absurd h List.not_mem_nil⟩
theorem vob_3_3 : pOb 3 (3, 6, 0, 1) := ⟨fun _ => tbT 394 (by decide +kernel) rfl, fun h => absurd h (by decide)⟩
theorem vob_3_27 : pOb 3 (27, 1, 41, 3) := ⟨fun h => absurd h (by decide), fun h => absurd h (by decide)⟩
theorem vob_3 : ∀ x ∈ ecl__3, pOb 3 x := List.forall_mem_cons.mpr ⟨vob_3_3, List.forall_mem_cons.mpr ⟨vob_3_27, fun _ h => absurd h List.not_mem_nil⟩⟩
theorem vob_4_3 : pOb 4 (3, 6, 0, 1) := ⟨fun _ => tbT 407 (by decide +kernel) rfl, fun h => absurd h (by decide)⟩
theorem vob_4_34 : pOb 4 (34, 0, 180, 2) := ⟨fun h => absurd h (by decide), fun h => absurd h (by decide)⟩
theorem vob_4_40 : pOb 4 (40, 1, 16, 3) := ⟨fun h => absurd h (by decide), fun h => absurd h (by decide)⟩
theorem vob_4_44 : pOb 4 (44, 3, 72, 2) := ⟨fun h => absurd h (by decide), fun h => absurd h (by decide)⟩
theorem vob_4_52 : pOb 4 (52, 1, 14, 1) := ⟨fun h => absurd h (by decide), fun h => absurd h (by decide)⟩
theorem vob_4_55 : pOb 4 (55, 1, 44, 2) := ⟨fun h => absurd h (by decide), fun h => absurd h (by decide)⟩
theorem vob_4_73 : pOb 4 (73, 3, 69, 2) := ⟨fun h => absurd h (by decide), fun h => absurd h (by decide)⟩
theorem vob_4_80 : pOb 4 (80, 1, 18, 2) := ⟨fun h => absurd h (by decide), fun h => absurd h (by decide)⟩
theorem vob_4_83 : pOb 4 (83, 0, 177, 1) := ⟨fun h => absurd h (by decide), fun h => absurd h (by decide)⟩
theorem vob_4_95 : pOb 4 (95, 1, 13, 3) := ⟨fun h => absurd h (by decide), fun h => absurd h (by decide)⟩
theorem vob_4_98 : pOb 4 (98, 1, 17, 1) := ⟨fun h => absurd h (by decide), fun h => absurd h (by decide)⟩
theorem vob_4 : ∀ x ∈ ecl__4, pOb 4 x := List.forall_mem_cons.mpr ⟨vob_4_3, List.forall_mem_cons.mpr ⟨vob_4_34, List.forall_mem_cons.mpr ⟨vob_4_40, List.forall_mem_cons.mpr ⟨vob_4_44, List.forall_mem_cons.mpr ⟨vob_4_52, List.forall_mem_cons.mpr ⟨vob_4_55, List.forall_mem_cons.mpr ⟨vob_4_73, List.forall_mem_cons.mpr ⟨vob_4_80, List.forall_mem_cons.mpr ⟨vob_4_83, List.forall_mem_cons.mpr ⟨vob_4_95, List.forall_mem_cons.mpr ⟨vob_4_98, fun _ h => absurd h List.not_mem_nil⟩⟩⟩⟩⟩⟩⟩⟩⟩⟩⟩
theorem vob_5_3 : pOb 5 (3, 6, 0, 1) := ⟨fun _ => tbT 263 (by decide +kernel) rfl, fun h => absurd h (by decide)⟩
theorem vob_5_17 : pOb 5 (17, 2, 3, 1) := ⟨fun h => absurd h (by decide), fun h => absurd h (by decide)⟩
theorem vob_5_25 : pOb 5 (25, 0, 178, 2) := ⟨fun h => absurd h (by decide), fun h => absurd h (by decide)⟩
theorem vob_5_31 : pOb 5 (31, 1, 23, 1) := ⟨fun h => absurd h (by decide), fun h => absurd h (by decide)⟩
theorem vob_5_35 : pOb 5 (35, 1, 5, 2) := ⟨fun h => absurd h (by decide), fun h => absurd h (by decide)⟩
theorem vob_5 : ∀ x ∈ ecl__5, pOb 5 x := List.forall_mem_cons.mpr ⟨vob_5_3, List.forall_mem_cons.mpr ⟨vob_5_17, List.forall_mem_cons.mpr ⟨vob_5_25, List.forall_mem_cons.mpr ⟨vob_5_31, List.forall_mem_cons.mpr ⟨vob_5_35, fun _ h => absurd h List.not_mem_nil⟩⟩⟩⟩⟩
theorem vob_6_3 : pOb 6 (3, 6, 0, 1) := ⟨fun _ => tbT 282 (by decide +kernel) rfl, fun h => absurd h (by decide)⟩
theorem vob_6_28 : pOb 6 (28, 7, 0, 5) := ⟨fun h => absurd h (by decide), fun _ => tbT 1234 (by decide +kernel) rfl⟩
theorem vob_6_34 : pOb 6 (34, 1, 28, 1) := ⟨fun h => absurd h (by decide), fun h => absurd h (by decide)⟩
theorem vob_6_37 : pOb 6 (37, 1, 35, 2) := ⟨fun h => absurd h (by decide), fun h => absurd h (by decide)⟩
theorem vob_6_43 : pOb 6 (43, 1, 29, 4) := ⟨fun h => absurd h (by decide), fun h => absurd h (by decide)⟩
theorem vob_6_50 : pOb 6 (50, 1, 36, 2) := ⟨fun h => absurd h (by decide), fun h => absurd h (by decide)⟩
theorem vob_6_54 : pOb 6 (54, 1, 30, 4) := ⟨fun h => absurd h (by decide), fun h => absurd h (by decide)⟩
theorem vob_6_57 : pOb 6 (57, 1, 38, 1) := ⟨fun h => absurd h (by decide), fun h => absurd h (by decide)⟩
theorem vob_6_68 : pOb 6 (68, 1, 37, 2) := ⟨fun h => absurd h (by decide), fun h => absurd h (by decide)⟩
theorem vob_6 : ∀ x ∈ ecl__6, pOb 6 x := List.forall_mem_cons.mpr ⟨vob_6_3, List.forall_mem_cons.mpr ⟨vob_6_28, List.forall_mem_cons.mpr ⟨vob_6_34, List.forall_mem_cons.mpr ⟨vob_6_37, List.forall_mem_cons.mpr ⟨vob_6_43, List.forall_mem_cons.mpr ⟨vob_6_50, List.forall_mem_cons.mpr ⟨vob_6_54, List.forall_mem_cons.mpr ⟨vob_6_57, List.forall_mem_cons.mpr ⟨vob_6_68, fun _ h => absurd h List.not_mem_nil⟩⟩⟩⟩⟩⟩⟩⟩⟩
theorem vob_7_3 : pOb 7 (3, 6, 0, 1) := ⟨fun _ => tbT 39 (by decide +kernel) rfl, fun h => absurd h (by decide)⟩
theorem vob_7_19 : pOb 7 (19, 8, 0, 1) := ⟨fun h => absurd h (by decide), fun h => absurd h (by decide)⟩
theorem vob_7_60 : pOb 7 (60, 1, 33, 1) := ⟨fun h => absurd h (by decide), fun h => absurd h (by decide)⟩
theorem vob_7_63 : pOb 7 (63, 0, 179, 2) := ⟨fun h => absurd h (by decide), fun h => absurd h (by decide)⟩
theorem vob_7 : ∀ x ∈ ecl__7, pOb 7 x := List.forall_mem_cons.mpr ⟨vob_7_3, List.forall_mem_cons.mpr ⟨vob_7_19, List.forall_mem_cons.mpr ⟨vob_7_60, List.forall_mem_cons.mpr ⟨vob_7_63, fun _ h => absurd h List.not_mem_nil⟩⟩⟩⟩
theorem vob_8_3 : pOb 8 (3, 6, 0, 1) := ⟨fun _ => tbT 147 (by decide +kernel) rfl, fun h => absurd h (by decide)⟩
theorem vob_8_37 : pOb 8 (37, 0, 180, 2) := ⟨fun h => absurd h (by decide), fun h => absurd h (by decide)⟩
theorem vob_8_50 : pOb 8 (50, 7, 0, 5) := ⟨fun h => absurd h (by decide), fun _ => tbT 686 (by decide +kernel) rfl⟩
theorem vob_8_56 : pOb 8 (56, 3, 72, 2) := ⟨fun h => absurd h (by decide), fun h => absurd h (by decide)⟩
theorem vob_8_64 : pOb 8 (64, 1, 44, 2) := ⟨fun h => absurd h (by decide), fun h => absurd h (by decide)⟩
theorem vob_8_82 : pOb 8 (82, 3, 53, 1) := ⟨fun h => absurd h (by decide), fun h => absurd h (by decide)⟩
theorem vob_8 : ∀ x ∈ ecl__8, pOb 8 x := List.forall_mem_cons.mpr ⟨vob_8_3, List.forall_mem_cons.mpr ⟨vob_8_37, List.forall_mem_cons.mpr ⟨vob_8_50, List.forall_mem_cons.mpr ⟨vob_8_56, List.forall_mem_cons.mpr ⟨vob_8_64, List.forall_mem_cons.mpr ⟨vob_8_82, fun _ h => absurd h List.not_mem_nil⟩⟩⟩⟩⟩⟩
theorem vob_9_3 : pOb 9 (3, 6, 0, 1) := ⟨fun _ => tbT 305 (by decide +kernel) rfl, fun h => absurd h (by decide)⟩
theorem vob_9_11 : pOb 9 (11, 5, 39, 1) := ⟨fun h => absurd h (by decide), fun h => absurd h (by decide)⟩
theorem vob_9_20 : pOb 9 (20, 2, 3, 1) := ⟨fun h => absurd h (by decide), fun h => absurd h (by decide)⟩
theorem vob_9_25 : pOb 9 (25, 1, 43, 1) := ⟨fun h => absurd h (by decide), fun h => absurd h (by decide)⟩
theorem vob_9_28 : pOb 9 (28, 1, 6, 1) := ⟨fun h => absurd h (by decide), fun h => absurd h (by decide)⟩
theorem vob_9_29 : pOb 9 (29, 1, 35, 2) := ⟨fun h => absurd h (by decide), fun h => absurd h (by decide)⟩
theorem vob_9 : ∀ x ∈ ecl__9, pOb 9 x := List.forall_mem_cons.mpr ⟨vob_9_3, List.forall_mem_cons.mpr ⟨vob_9_11, List.forall_mem_cons.mpr ⟨vob_9_20, List.forall_mem_cons.mpr ⟨vob_9_25, List.forall_mem_cons.mpr ⟨vob_9_28, List.forall_mem_cons.mpr ⟨vob_9_29, fun _ h => absurd h List.not_mem_nil⟩⟩⟩⟩⟩⟩
theorem vob_10_3 : pOb 10 (3, 6, 0, 1) := ⟨fun _ => tbT 366 (by decide +kernel) rfl, fun h => absurd h (by decide)⟩
theorem vob_10 : ∀ x ∈ ecl__10, pOb 10 x := List.forall_mem_cons.mpr ⟨vob_10_3, fun _ h => absurd h List.not_mem_nil⟩
theorem vob_11_1 : pOb 11 (1, 6, 0, 1) := ⟨fun _ => tbT 31 (by decide +kernel) rfl, fun h => absurd h (by decide)⟩
theorem vob_11_9 : pOb 11 (9, 2, 32, 1) := ⟨fun h => absurd h (by decide), fun h => absurd h (by decide)⟩
theorem vob_11_18 : pOb 11 (18, 5, 39, 1) := ⟨fun h => absurd h (by decide), fun h => absurd h (by decide)⟩
theorem vob_11_25 : pOb 11 (25, 2, 3, 1) := ⟨fun h => absurd h (by decide), fun h => absurd h (by decide)⟩
theorem vob_11_35 : pOb 11 (35, 2, 20, 1) := ⟨fun h => absurd h (by decide), fun h => absurd h (by decide)⟩
theorem vob_11_42 : pOb 11 (42, 5, 26, 1) := ⟨fun h => absurd h (by decide), fun h => absurd h (by decide)⟩
theorem vob_11_52 : pOb 11 (52, 5, 45, 1) := ⟨fun h => absurd h (by decide), fun h => absurd h (by decide)⟩
theorem vob_11_59 : pOb 11 (59, 5, 0, 1) := ⟨fun h => absurd h (by decide), fun h => absurd h (by decide)⟩
theorem vob_11_66 : pOb 11 (66, 5, 47, 1) := ⟨fun h => absurd h (by decide), fun h => absurd h (by decide)⟩
theorem vob_11_73 : pOb 11 (73, 5, 10, 1) := ⟨fun h => absurd h (by decide), fun h => absurd h (by decide)⟩
theorem vob_11_80 : pOb 11 (80, 5, 12, 1) := ⟨fun h => absurd h (by decide), fun h => absurd h (by decide)⟩
theorem vob_11_87 : pOb 11 (87, 5, 9, 1) := ⟨fun h => absurd h (by decide), fun h => absurd h (by decide)⟩
theorem vob_11_108 : pOb 11 (108, 1, 34, 2) := ⟨fun h => absurd h (by decide), fun h => absurd h (by decide)⟩
theorem vob_11_112 : pOb 11 (112, 1, 46, 2) := ⟨fun h => absurd h (by decide), fun h => absurd h (by decide)⟩
theorem vob_11_122 : pOb 11 (122, 1, 42, 2) := ⟨fun h => absurd h (by decide), fun h => absurd h (by decide)⟩
theorem vob_11_129 : pOb 11 (129, 1, 5, 2) := ⟨fun h => absurd h (by decide), fun h => absurd h (by decide)⟩
theorem vob_11_132 : pOb 11 (132, 1, 28, 1) := ⟨fun h => absurd h (by decide), fun h => absurd h (by decide)⟩
theorem vob_11_135 : pOb 11 (135, 1, 22, 1) := ⟨fun h => absurd h (by decide), fun h => absurd h (by decide)⟩
theorem vob_11_139 : pOb 11 (139, 1, 75, 2) := ⟨fun h => absurd h (by decide), fun h => absurd h (by decide)⟩
theorem vob_11_160 : pOb 11 (160, 0, 69, 2) := ⟨fun h => absurd h (by decide), fun h => absurd h (by decide)⟩
theorem vob_11_171 : pOb 11 (171, 1, 73, 2) := ⟨fun h => absurd h (by decide), fun h => absurd h (by decide)⟩
theorem vob_11_180 : pOb 11 (180, 1, 8, 2) := ⟨fun h => absurd h (by decide), fun h => absurd h (by decide)⟩
theorem vob_11_183 : pOb 11 (183, 1, 40, 1) := ⟨fun h => absurd h (by decide), fun h => absurd h (by decide)⟩
theorem vob_11_196 : pOb 11 (196, 1, 74, 2) := ⟨fun h => absurd h (by decide), fun h => absurd h (by decide)⟩
theorem vob_11_220 : pOb 11 (220, 1, 4, 1) := ⟨fun h => absurd h (by decide), fun h => absurd h (by decide)⟩
theorem vob_11_223 : pOb 11 (223, 1, 44, 2) := ⟨fun h => absurd h (by decide), fun h => absurd h (by decide)⟩
theorem vob_11_229 : pOb 11 (229, 0, 177, 1) := ⟨fun h => absurd h (by decide), fun h => absurd h (by decide)⟩
theorem vob_11_234 : pOb 11 (234, 1, 24, 2) := ⟨fun h => absurd h (by decide), fun h => absurd h (by decide)⟩
theorem vob_11_241 : pOb 11 (241, 1, 78, 2) := ⟨fun h => absurd h (by decide), fun h => absurd h (by decide)⟩
theorem vob_11_244 : pOb 11 (244, 1, 21, 1) := ⟨fun h => absurd h (by decide), fun h => absurd h (by decide)⟩
theorem vob_11_247 : pOb 11 (247, 1, 49, 3) := ⟨fun h => absurd h (by decide), fun h => absurd h (by decide)⟩
theorem vob_11_254 : pOb 11 (254, 0, 77, 1) := ⟨fun h => absurd h (by decide), fun h => absurd h (by decide)⟩
theorem vob_11_273 : pOb 11 (273, 1, 7, 3) := ⟨fun h => absurd h (by decide), fun h => absurd h (by decide)⟩
theorem vob_11_277 : pOb 11 (277, 1, 25, 2) := ⟨fun h => absurd h (by decide), fun h => absurd h (by decide)⟩
theorem vob_11_294 : pOb 11 (294, 0, 72, 2) := ⟨fun h => absurd h (by decide), fun h => absurd h (by decide)⟩
theorem vob_11_313 : pOb 11 (313, 1, 76, 1) := ⟨fun h => absurd h (by decide), fun h => absurd h (by decide)⟩
theorem vob_11_326 : pOb 11 (326, 0, 53, 1) := ⟨fun h => absurd h (by decide), fun h => absurd h (by decide)⟩
theorem vob_11_339 : pOb 11 (339, 1, 11, 4) := ⟨fun h => absurd h (by decide), fun h => absurd h (by decide)⟩
theorem vob_11_345 : pOb 11 (345, 1, 19, 3) := ⟨fun h => absurd h (by decide), fun h => absurd h (by decide)⟩
theorem vob_11_355 : pOb 11 (355, 1, 15, 3) := ⟨fun h => absurd h (by decide), fun h => absurd h (by decide)⟩
theorem vob_11_387 : pOb 11 (387, 1, 2, 3) := ⟨fun h => absurd h (by decide), fun h => absurd h (by decide)⟩
theorem vob_11_390 : pOb 11 (390, 1, 1, 3) := ⟨fun h => absurd h (by decide), fun h => absurd h (by decide)⟩
theorem vob_11_408 : pOb 11 (408, 1, 31, 3) := ⟨fun h => absurd h (by decide), fun h => absurd h (by decide)⟩
theorem vob_11_409 : pOb 11 (409, 1, 27, 2) := ⟨fun h => absurd h (by decide), fun h => absurd h (by decide)⟩
theorem vob_11 : ∀ x ∈ ecl__11, pOb 11 x := List.forall_mem_cons.mpr ⟨vob_11_1, List.forall_mem_cons.mpr ⟨vob_11_9, List.forall_mem_cons.mpr ⟨vob_11_18, List.forall_mem_cons.mpr ⟨vob_11_25, List.forall_mem_cons.mpr ⟨vob_11_35, List.forall_mem_cons.mpr ⟨vob_11_42, List.forall_mem_cons.mpr ⟨vob_11_52, List.forall_mem_cons.mpr ⟨vob_11_59, List.forall_mem_cons.mpr ⟨vob_11_66, List.forall_mem_cons.mpr ⟨vob_11_73, List.forall_mem_cons.mpr ⟨vob_11_80, List.forall_mem_cons.mpr ⟨vob_11_87, List.forall_mem_cons.mpr ⟨vob_11_108, List.forall_mem_cons.mpr ⟨vob_11_112, List.forall_mem_cons.mpr ⟨vob_11_122, List.forall_mem_cons.mpr ⟨vob_11_129, List.forall_mem_cons.mpr ⟨vob_11_132, List.forall_mem_cons.mpr ⟨vob_11_135, List.forall_mem_cons.mpr ⟨vob_11_139, List.forall_mem_cons.mpr ⟨vob_11_160, List.forall_mem_cons.mpr ⟨vob_11_171, List.forall_mem_cons.mpr ⟨vob_11_180, List.forall_mem_cons.mpr ⟨vob_11_183, List.forall_mem_cons.mpr ⟨vob_11_196, List.forall_mem_cons.mpr ⟨vob_11_220, List.forall_mem_cons.mpr ⟨vob_11_223, List.forall_mem_cons.mpr ⟨vob_11_229, List.forall_mem_cons.mpr ⟨vob_11_234, List.forall_mem_cons.mpr ⟨vob_11_241, List.forall_mem_cons.mpr ⟨vob_11_244, List.forall_mem_cons.mpr ⟨vob_11_247, List.forall_mem_cons.mpr ⟨vob_11_254, List.forall_mem_cons.mpr ⟨vob_11_273, List.forall_mem_cons.mpr ⟨vob_11_277, List.forall_mem_cons.mpr ⟨vob_11_294, List.forall_mem_cons.mpr ⟨vob_11_313, List.forall_mem_cons.mpr ⟨vob_11_326, List.forall_mem_cons.mpr ⟨vob_11_339, List.forall_mem_cons.mpr ⟨vob_11_345, List.forall_mem_cons.mpr ⟨vob_11_355, List.forall_mem_cons.mpr ⟨vob_11_387, List.forall_mem_cons.mpr ⟨vob_11_390, List.forall_mem_cons.mpr ⟨vob_11_408, List.forall_mem_cons.mpr ⟨vob_11_409, fun _ h => absurd h List.not_mem_nil⟩⟩⟩⟩⟩⟩⟩⟩⟩⟩⟩⟩⟩⟩⟩⟩⟩⟩⟩⟩⟩⟩⟩⟩⟩⟩⟩⟩⟩⟩⟩⟩⟩⟩⟩⟩⟩⟩⟩⟩⟩⟩⟩⟩
theorem vob_12_10 : pOb 12 (10, 1, 128, 2) := ⟨fun h => absurd h (by decide), fun h => absurd h (by decide)⟩
theorem vob_12_27 : pOb 12 (27, 6, 0, 1) := ⟨fun _ => tbT 1381 (by decide +kernel) rfl, fun h => absurd h (by decide)⟩
theorem vob_12_174 : pOb 12 (174, 1, 151, 1) := ⟨fun h => absurd h (by decide), fun h => absurd h (by decide)⟩
theorem vob_12_207 : pOb 12 (207, 1, 137, 2) := ⟨fun h => absurd h (by decide), fun h => absurd h (by decide)⟩
theorem vob_12_210 : pOb 12 (210, 1, 110, 2) := ⟨fun h => absurd h (by decide), fun h => absurd h (by decide)⟩
theorem vob_12_213 : pOb 12 (213, 1, 162, 1) := ⟨fun h => absurd h (by decide), fun h => absurd h (by decide)⟩
theorem vob_12_216 : pOb 12 (216, 0, 133, 3) := ⟨fun h => absurd h (by decide), fun h => absurd h (by decide)⟩
theorem vob_12_235 : pOb 12 (235, 1, 138, 2) := ⟨fun h => absurd h (by decide), fun h => absurd h (by decide)⟩
theorem vob_12_260 : pOb 12 (260, 1, 165, 2) := ⟨fun h => absurd h (by decide), fun h => absurd h (by decide)⟩
theorem vob_12_275 : pOb 12 (275, 1, 134, 2) := ⟨fun h => absurd h (by decide), fun h => absurd h (by decide)⟩
theorem vob_12_278 : pOb 12 (278, 1, 136, 2) := ⟨fun h => absurd h (by decide), fun h => absurd h (by decide)⟩
theorem vob_12_281 : pOb 12 (281, 1, 169, 2) := ⟨fun h => absurd h (by decide), fun h => absurd h (by decide)⟩
theorem vob_12_298 : pOb 12 (298, 1, 157, 2) := ⟨fun h => absurd h (by decide), fun h => absurd h (by decide)⟩
theorem vob_12_301 : pOb 12 (301, 1, 135, 2) := ⟨fun h => absurd h (by decide), fun h => absurd h (by decide)⟩
theorem vob_12_316 : pOb 12 (316, 1, 116, 1) := ⟨fun h => absurd h (by decide), fun h => absurd h (by decide)⟩
theorem vob_12_325 : pOb 12 (325, 1, 139, 1) := ⟨fun h => absurd h (by decide), fun h => absurd h (by decide)⟩
theorem vob_12_332 : pOb 12 (332, 1, 106, 3) := ⟨fun h => absurd h (by decide), fun h => absurd h (by decide)⟩
theorem vob_12_351 : pOb 12 (351, 1, 105, 2) := ⟨fun h => absurd h (by decide), fun h => absurd h (by decide)⟩
theorem vob_12_354 : pOb 12 (354, 1, 143, 1) := ⟨fun h => absurd h (by decide), fun h => absurd h (by decide)⟩
theorem vob_12_369 : pOb 12 (369, 1, 170, 1) := ⟨fun h => absurd h (by decide), fun h => absurd h (by decide)⟩
theorem vob_12_375 : pOb 12 (375, 1, 109, 1) := ⟨fun h => absurd h (by decide), fun h => absurd h (by decide)⟩
theorem vob_12_385 : pOb 12 (385, 1, 115, 2) := ⟨fun h => absurd h (by decide), fun h => absurd h (by decide)⟩
theorem vob_12_400 : pOb 12 (400, 1, 124, 1) := ⟨fun h => absurd h (by decide), fun h => absurd h (by decide)⟩
theorem vob_12_461 : pOb 12 (461, 1, 140, 1) := ⟨fun h => absurd h (by decide), fun h => absurd h (by decide)⟩
theorem vob_12_479 : pOb 12 (479, 1, 148, 1) := ⟨fun h => absurd h (by decide), fun h => absurd h (by decide)⟩
theorem vob_12 : ∀ x ∈ ecl__12, pOb 12 x := List.forall_mem_cons.mpr ⟨vob_12_10, List.forall_mem_cons.mpr ⟨vob_12_27, List.forall_mem_cons.mpr ⟨vob_12_174, List.forall_mem_cons.mpr ⟨vob_12_207, List.forall_mem_cons.mpr ⟨vob_12_210, List.forall_mem_cons.mpr ⟨vob_12_213, List.forall_mem_cons.mpr ⟨vob_12_216, List.forall_mem_cons.mpr ⟨vob_12_235, List.forall_mem_cons.mpr ⟨vob_12_260, List.forall_mem_cons.mpr ⟨vob_12_275, List.forall_mem_cons.mpr ⟨vob_12_278, List.forall_mem_cons.mpr ⟨vob_12_281, List.forall_mem_cons.mpr ⟨vob_12_298, List.forall_mem_cons.mpr ⟨vob_12_301, List.forall_mem_cons.mpr ⟨vob_12_316, List.forall_mem_cons.mpr ⟨vob_12_325, List.forall_mem_cons.mpr ⟨vob_12_332, List.forall_mem_cons.mpr ⟨vob_12_351, List.forall_mem_cons.mpr ⟨vob_12_354, List.forall_mem_cons.mpr ⟨vob_12_369, List.forall_mem_cons.mpr ⟨vob_12_375, List.forall_mem_cons.mpr ⟨vob_12_385, List.forall_mem_cons.mpr ⟨vob_12_400, List.forall_mem_cons.mpr ⟨vob_12_461, List.forall_mem_cons.mpr ⟨vob_12_479, fun _ h => absurd h List.not_mem_nil⟩⟩⟩⟩⟩⟩⟩⟩⟩⟩⟩⟩⟩⟩⟩⟩⟩⟩⟩⟩⟩⟩⟩⟩⟩
theorem vob_13_15 : pOb 13 (15, 2, 48, 1) := ⟨fun h => absurd h (by decide), fun h => absurd h (by decide)⟩
theorem vob_13_18 : pOb 13 (18, 2, 104, 1) := ⟨fun h => absurd h (by decide), fun h => absurd h (by decide)⟩
theorem vob_13_19 : pOb 13 (19, 1, 65, 6) := ⟨fun h => absurd h (by decide), fun h => absurd h (by decide)⟩
theorem vob_13_23 : pOb 13 (23, 1, 126, 6) := ⟨fun h => absurd h (by decide), fun h => absurd h (by decide)⟩
theorem vob_13_24 : pOb 13 (24, 1, 62, 2) := ⟨fun h => absurd h (by decide), fun h => absurd h (by decide)⟩
theorem vob_13_28 : pOb 13 (28, 1, 122, 2) := ⟨fun h => absurd h (by decide), fun h => absurd h (by decide)⟩
theorem vob_13_29 : pOb 13 (29, 1, 97, 1) := ⟨fun h => absurd h (by decide), fun h => absurd h (by decide)⟩
theorem vob_13_33 : pOb 13 (33, 1, 166, 1) := ⟨fun h => absurd h (by decide), fun h => absurd h (by decide)⟩
theorem vob_13_34 : pOb 13 (34, 1, 64, 1) := ⟨fun h => absurd h (by decide), fun h => absurd h (by decide)⟩
theorem vob_13_37 : pOb 13 (37, 1, 125, 1) := ⟨fun h => absurd h (by decide), fun h => absurd h (by decide)⟩
theorem vob_13_38 : pOb 13 (38, 9, 75, 4) := ⟨fun h => absurd h (by decide), fun h => absurd h (by decide)⟩
theorem vob_13_43 : pOb 13 (43, 1, 156, 3) := ⟨fun h => absurd h (by decide), fun h => absurd h (by decide)⟩
theorem vob_13_44 : pOb 13 (44, 1, 168, 1) := ⟨fun h => absurd h (by decide), fun h => absurd h (by decide)⟩
theorem vob_13_47 : pOb 13 (47, 1, 85, 3) := ⟨fun h => absurd h (by decide), fun h => absurd h (by decide)⟩
theorem vob_13_50 : pOb 13 (50, 1, 149, 3) := ⟨fun h => absurd h (by decide), fun h => absurd h (by decide)⟩
theorem vob_13_51 : pOb 13 (51, 1, 86, 3) := ⟨fun h => absurd h (by decide), fun h => absurd h (by decide)⟩
theorem vob_13_54 : pOb 13 (54, 1, 150, 3) := ⟨fun h => absurd h (by decide), fun h => absurd h (by decide)⟩
theorem vob_13_55 : pOb 13 (55, 1, 83, 2) := ⟨fun h => absurd h (by decide), fun h => absurd h (by decide)⟩
theorem vob_13_59 : pOb 13 (59, 1, 146, 2) := ⟨fun h => absurd h (by decide), fun h => absurd h (by decide)⟩
theorem vob_13_60 : pOb 13 (60, 1, 67, 3) := ⟨fun h => absurd h (by decide), fun h => absurd h (by decide)⟩
theorem vob_13_63 : pOb 13 (63, 1, 129, 3) := ⟨fun h => absurd h (by decide), fun h => absurd h (by decide)⟩
theorem vob_13_64 : pOb 13 (64, 1, 79, 2) := ⟨fun h => absurd h (by decide), fun h => absurd h (by decide)⟩
theorem vob_13_67 : pOb 13 (67, 1, 141, 2) := ⟨fun h => absurd h (by decide), fun h => absurd h (by decide)⟩
theorem vob_13_68 : pOb 13 (68, 1, 92, 4) := ⟨fun h => absurd h (by decide), fun h => absurd h (by decide)⟩
theorem vob_13_72 : pOb 13 (72, 1, 159, 4) := ⟨fun h => absurd h (by decide), fun h => absurd h (by decide)⟩
theorem vob_13_73 : pOb 13 (73, 1, 80, 4) := ⟨fun h => absurd h (by decide), fun h => absurd h (by decide)⟩
theorem vob_13_76 : pOb 13 (76, 1, 142, 4) := ⟨fun h => absurd h (by decide), fun h => absurd h (by decide)⟩
theorem vob_13_77 : pOb 13 (77, 1, 103, 3) := ⟨fun h => absurd h (by decide), fun h => absurd h (by decide)⟩
theorem vob_13_80 : pOb 13 (80, 1, 175, 3) := ⟨fun h => absurd h (by decide), fun h => absurd h (by decide)⟩
theorem vob_13_81 : pOb 13 (81, 1, 60, 2) := ⟨fun h => absurd h (by decide), fun h => absurd h (by decide)⟩
theorem vob_13_84 : pOb 13 (84, 1, 120, 2) := ⟨fun h => absurd h (by decide), fun h => absurd h (by decide)⟩
theorem vob_13_85 : pOb 13 (85, 1, 94, 3) := ⟨fun h => absurd h (by decide), fun h => absurd h (by decide)⟩
theorem vob_13_88 : pOb 13 (88, 1, 161, 3) := ⟨fun h => absurd h (by decide), fun h => absurd h (by decide)⟩
theorem vob_13_89 : pOb 13 (89, 1, 56, 2) := ⟨fun h => absurd h (by decide), fun h => absurd h (by decide)⟩
theorem vob_13_92 : pOb 13 (92, 1, 114, 2) := ⟨fun h => absurd h (by decide), fun h => absurd h (by decide)⟩
theorem vob_13_93 : pOb 13 (93, 1, 81, 2) := ⟨fun h => absurd h (by decide), fun h => absurd h (by decide)⟩
theorem vob_13_96 : pOb 13 (96, 1, 144, 2) := ⟨fun h => absurd h (by decide), fun h => absurd h (by decide)⟩
theorem vob_13_97 : pOb 13 (97, 1, 99, 1) := ⟨fun h => absurd h (by decide), fun h => absurd h (by decide)⟩
theorem vob_13_100 : pOb 13 (100, 1, 171, 1) := ⟨fun h => absurd h (by decide), fun h => absurd h (by decide)⟩
theorem vob_13_101 : pOb 13 (101, 1, 102, 3) := ⟨fun h => absurd h (by decide), fun h => absurd h (by decide)⟩
theorem vob_13_104 : pOb 13 (104, 1, 174, 3) := ⟨fun h => absurd h (by decide), fun h => absurd h (by decide)⟩
theorem vob_13_105 : pOb 13 (105, 1, 96, 2) := ⟨fun h => absurd h (by decide), fun h => absurd h (by decide)⟩
theorem vob_13_108 : pOb 13 (108, 1, 164, 2) := ⟨fun h => absurd h (by decide), fun h => absurd h (by decide)⟩
theorem vob_13_109 : pOb 13 (109, 1, 52, 2) := ⟨fun h => absurd h (by decide), fun h => absurd h (by decide)⟩
theorem vob_13_112 : pOb 13 (112, 1, 111, 2) := ⟨fun h => absurd h (by decide), fun h => absurd h (by decide)⟩
theorem vob_13_113 : pOb 13 (113, 1, 51, 3) := ⟨fun h => absurd h (by decide), fun h => absurd h (by decide)⟩
theorem vob_13_116 : pOb 13 (116, 1, 108, 3) := ⟨fun h => absurd h (by decide), fun h => absurd h (by decide)⟩
theorem vob_13_117 : pOb 13 (117, 1, 50, 1) := ⟨fun h => absurd h (by decide), fun h => absurd h (by decide)⟩
theorem vob_13_120 : pOb 13 (120, 1, 107, 1) := ⟨fun h => absurd h (by decide), fun h => absurd h (by decide)⟩
theorem vob_13_121 : pOb 13 (121, 1, 98, 3) := ⟨fun h => absurd h (by decide), fun h => absurd h (by decide)⟩
theorem vob_13_124 : pOb 13 (124, 1, 167, 3) := ⟨fun h => absurd h (by decide), fun h => absurd h (by decide)⟩
theorem vob_13_125 : pOb 13 (125, 1, 66, 2) := ⟨fun h => absurd h (by decide), fun h => absurd h (by decide)⟩
theorem vob_13_128 : pOb 13 (128, 1, 127, 2) := ⟨fun h => absurd h (by decide), fun h => absurd h (by decide)⟩
theorem vob_13_129 : pOb 13 (129, 1, 95, 2) := ⟨fun h => absurd h (by decide), fun h => absurd h (by decide)⟩
theorem vob_13_132 : pOb 13 (132, 1, 163, 2) := ⟨fun h => absurd h (by decide), fun h => absurd h (by decide)⟩
theorem vob_13_133 : pOb 13 (133, 1, 59, 2) := ⟨fun h => absurd h (by decide), fun h => absurd h (by decide)⟩
theorem vob_13_136 : pOb 13 (136, 1, 119, 2) := ⟨fun h => absurd h (by decide), fun h => absurd h (by decide)⟩
theorem vob_13_137 : pOb 13 (137, 1, 63, 2) := ⟨fun h => absurd h (by decide), fun h => absurd h (by decide)⟩
theorem vob_13_140 : pOb 13 (140, 1, 123, 2) := ⟨fun h => absurd h (by decide), fun h => absurd h (by decide)⟩
theorem vob_13_141 : pOb 13 (141, 1, 90, 1) := ⟨fun h => absurd h (by decide), fun h => absurd h (by decide)⟩
theorem vob_13_144 : pOb 13 (144, 1, 155, 1) := ⟨fun h => absurd h (by decide), fun h => absurd h (by decide)⟩
theorem vob_13_145 : pOb 13 (145, 1, 88, 1) := ⟨fun h => absurd h (by decide), fun h => absurd h (by decide)⟩
theorem vob_13_148 : pOb 13 (148, 1, 153, 1) := ⟨fun h => absurd h (by decide), fun h => absurd h (by decide)⟩
theorem vob_13_149 : pOb 13 (149, 1, 87, 2) := ⟨fun h => absurd h (by decide), fun h => absurd h (by decide)⟩
theorem vob_13_152 : pOb 13 (152, 1, 152, 2) := ⟨fun h => absurd h (by decide), fun h => absurd h (by decide)⟩
theorem vob_13_153 : pOb 13 (153, 1, 101, 2) := ⟨fun h => absurd h (by decide), fun h => absurd h (by decide)⟩
theorem vob_13_156 : pOb 13 (156, 1, 173, 2) := ⟨fun h => absurd h (by decide), fun h => absurd h (by decide)⟩
theorem vob_13_157 : pOb 13 (157, 1, 100, 1) := ⟨fun h => absurd h (by decide), fun h => absurd h (by decide)⟩
theorem vob_13_160 : pOb 13 (160, 1, 172, 1) := ⟨fun h => absurd h (by decide), fun h => absurd h (by decide)⟩
theorem vob_13_161 : pOb 13 (161, 1, 57, 2) := ⟨fun h => absurd h (by decide), fun h => absurd h (by decide)⟩
theorem vob_13_164 : pOb 13 (164, 1, 117, 2) := ⟨fun h => absurd h (by decide), fun h => absurd h (by decide)⟩
theorem vob_13_165 : pOb 13 (165, 1, 70, 2) := ⟨fun h => absurd h (by decide), fun h => absurd h (by decide)⟩
theorem vob_13_168 : pOb 13 (168, 1, 131, 2) := ⟨fun h => absurd h (by decide), fun h => absurd h (by decide)⟩
theorem vob_13_169 : pOb 13 (169, 1, 68, 2) := ⟨fun h => absurd h (by decide), fun h => absurd h (by decide)⟩
theorem vob_13_172 : pOb 13 (172, 1, 130, 2) := ⟨fun h => absurd h (by decide), fun h => absurd h (by decide)⟩
theorem vob_13_173 : pOb 13 (173, 1, 82, 1) := ⟨fun h => absurd h (by decide), fun h => absurd h (by decide)⟩
theorem vob_13_176 : pOb 13 (176, 1, 145, 1) := ⟨fun h => absurd h (by decide), fun h => absurd h (by decide)⟩
theorem vob_13_177 : pOb 13 (177, 1, 61, 3) := ⟨fun h => absurd h (by decide), fun h => absurd h (by decide)⟩
theorem vob_13_180 : pOb 13 (180, 1, 121, 3) := ⟨fun h => absurd h (by decide), fun h => absurd h (by decide)⟩
theorem vob_13_181 : pOb 13 (181, 1, 84, 4) := ⟨fun h => absurd h (by decide), fun h => absurd h (by decide)⟩
theorem vob_13_184 : pOb 13 (184, 1, 147, 4) := ⟨fun h => absurd h (by decide), fun h => absurd h (by decide)⟩
theorem vob_13_185 : pOb 13 (185, 1, 54, 2) := ⟨fun h => absurd h (by decide), fun h => absurd h (by decide)⟩
theorem vob_13_188 : pOb 13 (188, 1, 112, 2) := ⟨fun h => absurd h (by decide), fun h => absurd h (by decide)⟩
theorem vob_13_189 : pOb 13 (189, 1, 55, 2) := ⟨fun h => absurd h (by decide), fun h => absurd h (by decide)⟩
theorem vob_13_192 : pOb 13 (192, 1, 113, 2) := ⟨fun h => absurd h (by decide), fun h => absurd h (by decide)⟩
theorem vob_13_193 : pOb 13 (193, 1, 93, 1) := ⟨fun h => absurd h (by decide), fun h => absurd h (by decide)⟩
theorem vob_13_196 : pOb 13 (196, 1, 160, 1) := ⟨fun h => absurd h (by decide), fun h => absurd h (by decide)⟩
theorem vob_13_197 : pOb 13 (197, 1, 91, 2) := ⟨fun h => absurd h (by decide), fun h => absurd h (by decide)⟩
theorem vob_13_200 : pOb 13 (200, 1, 158, 2) := ⟨fun h => absurd h (by decide), fun h => absurd h (by decide)⟩
theorem vob_13_201 : pOb 13 (201, 1, 71, 2) := ⟨fun h => absurd h (by decide), fun h => absurd h (by decide)⟩
theorem vob_13_204 : pOb 13 (204, 1, 132, 2) := ⟨fun h => absurd h (by decide), fun h => absurd h (by decide)⟩
theorem vob_13_205 : pOb 13 (205, 1, 89, 2) := ⟨fun h => absurd h (by decide), fun h => absurd h (by decide)⟩
theorem vob_13_208 : pOb 13 (208, 1, 154, 2) := ⟨fun h => absurd h (by decide), fun h => absurd h (by decide)⟩
theorem vob_13_209 : pOb 13 (209, 1, 58, 2) := ⟨fun h => absurd h (by decide), fun h => absurd h (by decide)⟩
theorem vob_13_212 : pOb 13 (212, 1, 118, 2) := ⟨fun h => absurd h (by decide), fun h => absurd h (by decide)⟩
theorem vob_13 : ∀ x ∈ ecl__13, pOb 13 x := List.forall_mem_cons.mpr ⟨vob_13_15, List.forall_mem_cons.mpr ⟨vob_13_18, List.forall_mem_cons.mpr ⟨vob_13_19, List.forall_mem_cons.mpr ⟨vob_13_23, List.forall_mem_cons.mpr ⟨vob_13_24, List.forall_mem_cons.mpr ⟨vob_13_28, List.forall_mem_cons.mpr ⟨vob_13_29, List.forall_mem_cons.mpr ⟨vob_13_33, List.forall_mem_cons.mpr ⟨vob_13_34, List.forall_mem_cons.mpr ⟨vob_13_37, List.forall_mem_cons.mpr ⟨vob_13_38, List.forall_mem_cons.mpr ⟨vob_13_43, List.forall_mem_cons.mpr ⟨vob_13_44, List.forall_mem_cons.mpr ⟨vob_13_47, List.forall_mem_cons.mpr ⟨vob_13_50, List.forall_mem_cons.mpr ⟨vob_13_51, List.forall_mem_cons.mpr ⟨vob_13_54, List.forall_mem_cons.mpr ⟨vob_13_55, List.forall_mem_cons.mpr ⟨vob_13_59, List.forall_mem_cons.mpr ⟨vob_13_60, List.forall_mem_cons.mpr ⟨vob_13_63, List.forall_mem_cons.mpr ⟨vob_13_64, List.forall_mem_cons.mpr ⟨vob_13_67, List.forall_mem_cons.mpr ⟨vob_13_68, List.forall_mem_cons.mpr ⟨vob_13_72, List.forall_mem_cons.mpr ⟨vob_13_73, List.forall_mem_cons.mpr ⟨vob_13_76, List.forall_mem_cons.mpr ⟨vob_13_77, List.forall_mem_cons.mpr ⟨vob_13_80, List.forall_mem_cons.mpr ⟨vob_13_81, List.forall_mem_cons.mpr ⟨vob_13_84, List.forall_mem_cons.mpr ⟨vob_13_85, List.forall_mem_cons.mpr ⟨vob_13_88, List.forall_mem_cons.mpr ⟨vob_13_89, List.forall_mem_cons.mpr ⟨vob_13_92, List.forall_mem_cons.mpr ⟨vob_13_93, List.forall_mem_cons.mpr ⟨vob_13_96, List.forall_mem_cons.mpr ⟨vob_13_97, List.forall_mem_cons.mpr ⟨vob_13_100, List.forall_mem_cons.mpr ⟨vob_13_101, List.forall_mem_cons.mpr ⟨vob_13_104, List.forall_mem_cons.mpr ⟨vob_13_105, List.forall_mem_cons.mpr ⟨vob_13_108, List.forall_mem_cons.mpr ⟨vob_13_109, List.forall_mem_cons.mpr ⟨vob_13_112, List.forall_mem_cons.mpr ⟨vob_13_113, List.forall_mem_cons.mpr ⟨vob_13_116, List.forall_mem_cons.mpr ⟨vob_13_117, List.forall_mem_cons.mpr ⟨vob_13_120, List.forall_mem_cons.mpr ⟨vob_13_121, List.forall_mem_cons.mpr ⟨vob_13_124, List.forall_mem_cons.mpr ⟨vob_13_125, List.forall_mem_cons.mpr ⟨vob_13_128, List.forall_mem_cons.mpr ⟨vob_13_129, List.forall_mem_cons.mpr ⟨vob_13_132, List.forall_mem_cons.mpr ⟨vob_13_133, List.forall_mem_cons.mpr ⟨vob_13_136, List.forall_mem_cons.mpr ⟨vob_13_137, List.forall_mem_cons.mpr ⟨vob_13_140, List.forall_mem_cons.mpr ⟨vob_13_141, List.forall_mem_cons.mpr ⟨vob_13_144, List.forall_mem_cons.mpr ⟨vob_13_145, List.forall_mem_cons.mpr ⟨vob_13_148, List.forall_mem_cons.mpr ⟨vob_13_149, List.forall_mem_cons.mpr ⟨vob_13_152, List.forall_mem_cons.mpr ⟨vob_13_153, List.forall_mem_cons.mpr ⟨vob_13_156, List.forall_mem_cons.mpr ⟨vob_13_157, List.forall_mem_cons.mpr ⟨vob_13_160, List.forall_mem_cons.mpr ⟨vob_13_161, List.forall_mem_cons.mpr ⟨vob_13_164, List.forall_mem_cons.mpr ⟨vob_13_165, List.forall_mem_cons.mpr ⟨vob_13_168, List.forall_mem_cons.mpr ⟨vob_13_169, List.forall_mem_cons.mpr ⟨vob_13_172, List.forall_mem_cons.mpr ⟨vob_13_173, List.forall_mem_cons.mpr ⟨vob_13_176, List.forall_mem_cons.mpr ⟨vob_13_177, List.forall_mem_cons.mpr ⟨vob_13_180, List.forall_mem_cons.mpr ⟨vob_13_181, List.forall_mem_cons.mpr ⟨vob_13_184, List.forall_mem_cons.mpr ⟨vob_13_185, List.forall_mem_cons.mpr ⟨vob_13_188, List.forall_mem_cons.mpr ⟨vob_13_189, List.forall_mem_cons.mpr ⟨vob_13_192, List.forall_mem_cons.mpr ⟨vob_13_193, List.forall_mem_cons.mpr ⟨vob_13_196, List.forall_mem_cons.mpr ⟨vob_13_197, List.forall_mem_cons.mpr ⟨vob_13_200, List.forall_mem_cons.mpr ⟨vob_13_201, List.forall_mem_cons.mpr ⟨vob_13_204, List.forall_mem_cons.mpr ⟨vob_13_205, List.forall_mem_cons.mpr ⟨vob_13_208, List.forall_mem_cons.mpr ⟨vob_13_209, List.forall_mem_cons.mpr ⟨vob_13_212, fun _ h => absurd h List.not_mem_nil⟩⟩⟩⟩⟩⟩⟩⟩⟩⟩⟩⟩⟩⟩⟩⟩⟩⟩⟩⟩⟩⟩⟩⟩⟩⟩⟩⟩⟩⟩⟩⟩⟩⟩⟩⟩⟩⟩⟩⟩⟩⟩⟩⟩⟩⟩⟩⟩⟩⟩⟩⟩⟩⟩⟩⟩⟩⟩⟩⟩⟩⟩⟩⟩⟩⟩⟩⟩⟩⟩⟩⟩⟩⟩⟩⟩⟩⟩⟩⟩⟩⟩⟩⟩⟩⟩⟩⟩⟩⟩⟩⟩⟩⟩⟩
theorem vob_14 : ∀ x ∈ ecl__14, pOb 14 x := fun _ h => absurd h List.not_mem_nil
theorem vob_15 : ∀ x ∈ ecl__15, pOb 15 x := fun _ h => absurd h List.not_mem_nil
theorem vob_16 : ∀ x ∈ ecl__16, pOb 16 x := fun _ h => absurd h List.not_mem_nil
theorem vob : eAll pOb 0 ecl_ := ⟨(vob_0), (vob_1), (vob_2), (vob_3), (vob_4), (vob_5), (vob_6), (vob_7), (vob_8), (vob_9), (vob_10), (vob_11), (vob_12), (vob_13), (vob_14), (vob_15), (vob_16), trivial⟩
theorem v_Ob : eOok Tb1 eCN eCL1 := ⟨fun o idx x n h => (ea2_all (P := pOb) vob h).1 rfl, tbT 32 (by decide +kernel) rfl, tbT 33 (by decide +kernel) rfl, fun o idx x n h => (ea2_all (P := pOb) vob h).2 rfl, tbT 688 (by decide +kernel) rfl, tbT 687 (by decide +kernel) rfl, tbT 20 (by decide +kernel) rfl⟩
