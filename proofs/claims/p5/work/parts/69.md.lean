theorem vcl_9_43 (NF : State → Prop) : pCL NF 9 (43, 1, 74, 2) := fun hN _ q hq => by
  have hq2 : gMT 74 = some q := hq
  cases (show gMT 74 = some (gm_74, 2) from rfl).symm.trans hq2
  exact ⟨yX7_takeSign, cX7_takeSign, (some .boolean), vm_74, ⟨by decide +kernel, Or.inr (Or.inl ⟨rfl, tbT 674 (by decide +kernel) rfl, tbT 675 (by decide +kernel) rfl, tbT 676 (by decide +kernel) rfl⟩)⟩, fun _ => ⟨TX7, 11, rfl⟩⟩
theorem vcl_9_47 (NF : State → Prop) : pCL NF 9 (47, 1, 69, 1) := fun hN _ q hq => by
  have hq2 : gMT 69 = some q := hq
  cases (show gMT 69 = some (gm_69, 1) from rfl).symm.trans hq2
  exact ⟨yX7_keyword, cX7_keyword, (some .int), vm_69, ⟨by decide +kernel, Or.inr (Or.inl ⟨rfl, tbT 568 (by decide +kernel) rfl, tbT 569 (by decide +kernel) rfl, tbT 570 (by decide +kernel) rfl⟩)⟩, fun _ => ⟨TX7, 11, rfl⟩⟩
theorem vcl_9_51 (NF : State → Prop) : pCL NF 9 (51, 1, 98, 3) := fun hN _ q hq => by
  have hq2 : gMT 98 = some q := hq
  cases (show gMT 98 = some (gm_98, 3) from rfl).symm.trans hq2
  exact ⟨yX9_readNewName, cX9_readNewName, (some .boolean), vm_98, ⟨by decide +kernel, Or.inr (Or.inl ⟨rfl, tbT 572 (by decide +kernel) rfl, tbT 574 (by decide +kernel) rfl, tbS (n := 2) 4 (by decide +kernel) rfl⟩)⟩, fun _ => ⟨TX9, 2, rfl⟩⟩
theorem vcl_9_55 (NF : State → Prop) : pCL NF 9 (55, 1, 87, 2) := fun hN _ q hq => by
  have hq2 : gMT 87 = some q := hq
  cases (show gMT 87 = some (gm_87, 2) from rfl).symm.trans hq2
  exact ⟨yX8_manyOf, cX8_manyOf, (some .int), vm_87, ⟨by decide +kernel, Or.inr (Or.inl ⟨rfl, tbT 610 (by decide +kernel) rfl, tbT 581 (by decide +kernel) rfl, tbT 582 (by decide +kernel) rfl⟩)⟩, fun _ => ⟨TX8, 10, rfl⟩⟩
theorem vcl_9_59 (NF : State → Prop) : pCL NF 9 (59, 1, 95, 3) := fun hN _ q hq => by
  have hq2 : gMT 95 = some q := hq
  cases (show gMT 95 = some (gm_95, 5) from rfl).symm.trans hq2
  exact ⟨yX9_readHouseAndOwner, cX9_readHouseAndOwner, (some .boolean), vm_95, ⟨by decide +kernel, Or.inr (Or.inl ⟨rfl, tbT 611 (by decide +kernel) rfl, tbT 613 (by decide +kernel) rfl, tbS (n := 2) 6 (by decide +kernel) rfl⟩)⟩, fun _ => ⟨TX9, 2, rfl⟩⟩
theorem vcl_9_62 (NF : State → Prop) : pCL NF 9 (62, 1, 99, 3) := fun hN _ q hq => by
  have hq2 : gMT 99 = some q := hq
  cases (show gMT 99 = some (gm_99, 5) from rfl).symm.trans hq2
  exact ⟨yX9_readPassage, cX9_readPassage, (some .boolean), vm_99, ⟨by decide +kernel, Or.inr (Or.inl ⟨rfl, tbT 622 (by decide +kernel) rfl, tbT 624 (by decide +kernel) rfl, tbS (n := 2) 7 (by decide +kernel) rfl⟩)⟩, fun _ => ⟨TX9, 2, rfl⟩⟩
theorem vcl_9_66 (NF : State → Prop) : pCL NF 9 (66, 1, 100, 2) := fun hN _ q hq => by
  have hq2 : gMT 100 = some q := hq
  cases (show gMT 100 = some (gm_100, 4) from rfl).symm.trans hq2
  exact ⟨yX9_readPlace, cX9_readPlace, (some .boolean), vm_100, ⟨by decide +kernel, Or.inr (Or.inl ⟨rfl, tbT 644 (by decide +kernel) rfl, tbT 646 (by decide +kernel) rfl, tbS (n := 2) 8 (by decide +kernel) rfl⟩)⟩, fun _ => ⟨TX9, 2, rfl⟩⟩
theorem vcl_9_69 (NF : State → Prop) : pCL NF 9 (69, 1, 96, 2) := fun hN _ q hq => by
  have hq2 : gMT 96 = some q := hq
  cases (show gMT 96 = some (gm_96, 4) from rfl).symm.trans hq2
  exact ⟨yX9_readLeave, cX9_readLeave, (some .boolean), vm_96, ⟨by decide +kernel, Or.inr (Or.inl ⟨rfl, tbT 648 (by decide +kernel) rfl, tbT 650 (by decide +kernel) rfl, tbS (n := 2) 9 (by decide +kernel) rfl⟩)⟩, fun _ => ⟨TX9, 2, rfl⟩⟩
theorem vcl_9_72 (NF : State → Prop) : pCL NF 9 (72, 1, 94, 2) := fun hN _ q hq => by
  have hq2 : gMT 94 = some q := hq
  cases (show gMT 94 = some (gm_94, 4) from rfl).symm.trans hq2
  exact ⟨yX9_readHeir, cX9_readHeir, (some .boolean), vm_94, ⟨by decide +kernel, Or.inr (Or.inl ⟨rfl, tbT 654 (by decide +kernel) rfl, tbT 656 (by decide +kernel) rfl, tbS (n := 2) 10 (by decide +kernel) rfl⟩)⟩, fun _ => ⟨TX9, 2, rfl⟩⟩
theorem vcl_9_75 (NF : State → Prop) : pCL NF 9 (75, 1, 97, 2) := fun hN _ q hq => by
  have hq2 : gMT 97 = some q := hq
  cases (show gMT 97 = some (gm_97, 5) from rfl).symm.trans hq2
  exact ⟨yX9_readLiking, cX9_readLiking, (some .boolean), vm_97, ⟨by decide +kernel, Or.inr (Or.inl ⟨rfl, tbT 658 (by decide +kernel) rfl, tbT 660 (by decide +kernel) rfl, tbS (n := 2) 11 (by decide +kernel) rfl⟩)⟩, fun _ => ⟨TX9, 2, rfl⟩⟩
theorem vcl_9_78 (NF : State → Prop) : pCL NF 9 (78, 1, 65, 2) := fun hN _ q hq => by
  have hq2 : gMT 65 = some q := hq
  cases (show gMT 65 = some (gm_65, 2) from rfl).symm.trans hq2
  exact ⟨yX7_fail, cX7_fail, (some .boolean), vm_65, ⟨by decide +kernel, Or.inr (Or.inl ⟨rfl, tbT 591 (by decide +kernel) rfl, tbT 592 (by decide +kernel) rfl, tbT 593 (by decide +kernel) rfl⟩)⟩, fun _ => ⟨TX7, 11, rfl⟩⟩
theorem vcl_9_81 (NF : State → Prop) : pCL NF 9 (81, 1, 82, 2) := fun hN _ q hq => by
  have hq2 : gMT 82 = some q := hq
  cases (show gMT 82 = some (gm_82, 2) from rfl).symm.trans hq2
  exact ⟨yX8_isFull, cX8_isFull, (some .boolean), vm_82, ⟨by decide +kernel, Or.inr (Or.inl ⟨rfl, tbT 576 (by decide +kernel) rfl, tbT 577 (by decide +kernel) rfl, tbT 578 (by decide +kernel) rfl⟩)⟩, fun _ => ⟨TX8, 10, rfl⟩⟩
theorem vcl_9_84 (NF : State → Prop) : pCL NF 9 (84, 1, 60, 1) := fun hN _ q hq => by
  have hq2 : gMT 60 = some q := hq
  cases (show gMT 60 = some (gm_60, 2) from rfl).symm.trans hq2
  exact ⟨yX7_advance, cX7_advance, none, vm_60, ⟨by decide +kernel, Or.inr (Or.inl ⟨rfl, tbT 595 (by decide +kernel) rfl, tbT 536 (by decide +kernel) rfl, tbT 537 (by decide +kernel) rfl⟩)⟩, fun _ => ⟨TX7, 11, rfl⟩⟩
theorem vcl_9_91 (NF : State → Prop) : pCL NF 9 (91, 1, 83, 2) := fun hN _ q hq => by
  have hq2 : gMT 83 = some q := hq
  cases (show gMT 83 = some (gm_83, 3) from rfl).symm.trans hq2
  exact ⟨yX8_isTold, cX8_isTold, (some .boolean), vm_83, ⟨by decide +kernel, Or.inr (Or.inl ⟨rfl, tbT 596 (by decide +kernel) rfl, tbT 597 (by decide +kernel) rfl, tbT 598 (by decide +kernel) rfl⟩)⟩, fun _ => ⟨TX8, 10, rfl⟩⟩
theorem vcl_9_95 (NF : State → Prop) : pCL NF 9 (95, 1, 91, 3) := fun hN _ q hq => by
  have hq2 : gMT 91 = some q := hq
  cases (show gMT 91 = some (gm_91, 4) from rfl).symm.trans hq2
  exact ⟨yX8_tell, cX8_tell, none, vm_91, ⟨by decide +kernel, Or.inr (Or.inl ⟨rfl, tbT 605 (by decide +kernel) rfl, tbT 606 (by decide +kernel) rfl, tbT 607 (by decide +kernel) rfl⟩)⟩, fun _ => ⟨TX8, 10, rfl⟩⟩
theorem vcl_9_99 (NF : State → Prop) : pCL NF 9 (99, 1, 75, 3) := fun hN _ q hq => by
  have hq2 : gMT 75 = some q := hq
  cases (show gMT 75 = some (gm_75, 4) from rfl).symm.trans hq2
  exact ⟨yX7_toldName, cX7_toldName, (some .int), vm_75, ⟨by decide +kernel, Or.inr (Or.inl ⟨rfl, tbT 615 (by decide +kernel) rfl, tbT 616 (by decide +kernel) rfl, tbT 617 (by decide +kernel) rfl⟩)⟩, fun _ => ⟨TX7, 11, rfl⟩⟩
theorem vcl_9_103 (NF : State → Prop) : pCL NF 9 (103, 3, 136, 2) := fun hN _ q hq => by
  have hq2 : gMT 136 = some q := hq
  cases (show gMT 136 = some (gm_136, 2) from rfl).symm.trans hq2
  exact ⟨yX11_isBelow, cX11_isBelow, (some .boolean), vm_136, ⟨by decide +kernel, Or.inr (Or.inr (Or.inr (Or.inl ⟨rfl, ⟨"WardrobeRow", fun s h => hN s h _ (List.mem_of_getElem? (i := 12) rfl)⟩, tbT 585 (by decide +kernel) rfl⟩)))⟩, fun h => absurd h (by decide)⟩
theorem vcl_9_117 (NF : State → Prop) : pCL NF 9 (117, 1, 77, 3) := fun hN _ q hq => by
  have hq2 : gMT 77 = some q := hq
  cases (show gMT 77 = some (gm_77, 3) from rfl).symm.trans hq2
  exact ⟨yX8_areJoined, cX8_areJoined, (some .boolean), vm_77, ⟨by decide +kernel, Or.inr (Or.inl ⟨rfl, tbT 626 (by decide +kernel) rfl, tbT 627 (by decide +kernel) rfl, tbT 628 (by decide +kernel) rfl⟩)⟩, fun _ => ⟨TX8, 10, rfl⟩⟩
theorem vcl_9_120 (NF : State → Prop) : pCL NF 9 (120, 1, 84, 4) := fun hN _ q hq => by
  have hq2 : gMT 84 = some q := hq
  cases (show gMT 84 = some (gm_84, 4) from rfl).symm.trans hq2
  exact ⟨yX8_join, cX8_join, none, vm_84, ⟨by decide +kernel, Or.inr (Or.inl ⟨rfl, tbT 640 (by decide +kernel) rfl, tbT 641 (by decide +kernel) rfl, tbT 642 (by decide +kernel) rfl⟩)⟩, fun _ => ⟨TX8, 10, rfl⟩⟩
theorem vcl_9_130 (NF : State → Prop) : pCL NF 9 (130, 3, 132, 2) := fun hN _ q hq => by
  have hq2 : gMT 132 = some q := hq
  cases (show gMT 132 = some (gm_132, 2) from rfl).symm.trans hq2
  exact ⟨yX11_has, cX11_has, (some .boolean), vm_132, ⟨by decide +kernel, Or.inr (Or.inr (Or.inr (Or.inl ⟨rfl, ⟨"WardrobeRow", fun s h => hN s h _ (List.mem_of_getElem? (i := 13) rfl)⟩, tbT 638 (by decide +kernel) rfl⟩)))⟩, fun h => absurd h (by decide)⟩
theorem vcl_9_133 (NF : State → Prop) : pCL NF 9 (133, 3, 115, 1) := fun hN _ q hq => by
  have hq2 : gMT 115 = some q := hq
  cases (show gMT 115 = some (gm_115, 1) from rfl).symm.trans hq2
  exact ⟨yX11_bit, cX11_bit, (some .int), vm_115, ⟨by decide +kernel, Or.inr (Or.inr (Or.inr (Or.inl ⟨rfl, ⟨"WardrobeRow", fun s h => hN s h _ (List.mem_of_getElem? (i := 14) rfl)⟩, tbT 631 (by decide +kernel) rfl⟩)))⟩, fun h => absurd h (by decide)⟩
theorem vcl_9_139 (NF : State → Prop) : pCL NF 9 (139, 1, 86, 3) := fun hN _ q hq => by
  have hq2 : gMT 86 = some q := hq
  cases (show gMT 86 = some (gm_86, 3) from rfl).symm.trans hq2
  exact ⟨yX8_liking, cX8_liking, (some .int), vm_86, ⟨by decide +kernel, Or.inr (Or.inl ⟨rfl, tbT 662 (by decide +kernel) rfl, tbT 663 (by decide +kernel) rfl, tbT 664 (by decide +kernel) rfl⟩)⟩, fun _ => ⟨TX8, 10, rfl⟩⟩
theorem vcl_9_143 (NF : State → Prop) : pCL NF 9 (143, 1, 71, 3) := fun hN _ q hq => by
  have hq2 : gMT 71 = some q := hq
  cases (show gMT 71 = some (gm_71, 3) from rfl).symm.trans hq2
  exact ⟨yX7_numberWithin, cX7_numberWithin, (some .int), vm_71, ⟨by decide +kernel, Or.inr (Or.inl ⟨rfl, tbT 666 (by decide +kernel) rfl, tbT 667 (by decide +kernel) rfl, tbT 668 (by decide +kernel) rfl⟩)⟩, fun _ => ⟨TX7, 11, rfl⟩⟩
theorem vcl_9_146 (NF : State → Prop) : pCL NF 9 (146, 1, 85, 4) := fun hN _ q hq => by
  have hq2 : gMT 85 = some q := hq
  cases (show gMT 85 = some (gm_85, 4) from rfl).symm.trans hq2
  exact ⟨yX8_like, cX8_like, none, vm_85, ⟨by decide +kernel, Or.inr (Or.inl ⟨rfl, tbT 670 (by decide +kernel) rfl, tbT 671 (by decide +kernel) rfl, tbT 672 (by decide +kernel) rfl⟩)⟩, fun _ => ⟨TX8, 10, rfl⟩⟩
theorem vcl_9 (NF : State → Prop) : ∀ x ∈ gcl__9, pCL NF 9 x := List.forall_mem_cons.mpr ⟨(vcl_9_25 NF), List.forall_mem_cons.mpr ⟨(vcl_9_28 NF), List.forall_mem_cons.mpr ⟨(vcl_9_29 NF), List.forall_mem_cons.mpr ⟨(vcl_9_39 NF), List.forall_mem_cons.mpr ⟨(vcl_9_43 NF), List.forall_mem_cons.mpr ⟨(vcl_9_47 NF), List.forall_mem_cons.mpr ⟨(vcl_9_51 NF), List.forall_mem_cons.mpr ⟨(vcl_9_55 NF), List.forall_mem_cons.mpr ⟨(vcl_9_59 NF), List.forall_mem_cons.mpr ⟨(vcl_9_62 NF), List.forall_mem_cons.mpr ⟨(vcl_9_66 NF), List.forall_mem_cons.mpr ⟨(vcl_9_69 NF), List.forall_mem_cons.mpr ⟨(vcl_9_72 NF), List.forall_mem_cons.mpr ⟨(vcl_9_75 NF), List.forall_mem_cons.mpr ⟨(vcl_9_78 NF), List.forall_mem_cons.mpr ⟨(vcl_9_81 NF), List.forall_mem_cons.mpr ⟨(vcl_9_84 NF), List.forall_mem_cons.mpr ⟨(vcl_9_91 NF), List.forall_mem_cons.mpr ⟨(vcl_9_95 NF), List.forall_mem_cons.mpr ⟨(vcl_9_99 NF), List.forall_mem_cons.mpr ⟨(vcl_9_103 NF), List.forall_mem_cons.mpr ⟨(vcl_9_117 NF), List.forall_mem_cons.mpr ⟨(vcl_9_120 NF), List.forall_mem_cons.mpr ⟨(vcl_9_130 NF), List.forall_mem_cons.mpr ⟨(vcl_9_133 NF), List.forall_mem_cons.mpr ⟨(vcl_9_139 NF), List.forall_mem_cons.mpr ⟨(vcl_9_143 NF), List.forall_mem_cons.mpr ⟨(vcl_9_146 NF), fun _ h => absurd h List.not_mem_nil⟩⟩⟩⟩⟩⟩⟩⟩⟩⟩⟩⟩⟩⟩⟩⟩⟩⟩⟩⟩⟩⟩⟩⟩⟩⟩⟩⟩
theorem vcl_10_28 (NF : State → Prop) : pCL NF 10 (28, 1, 87, 2) := fun hN _ q hq => by
  have hq2 : gMT 87 = some q := hq
  cases (show gMT 87 = some (gm_87, 2) from rfl).symm.trans hq2
  exact ⟨yX8_manyOf, cX8_manyOf, (some .int), vm_87, ⟨by decide +kernel, Or.inr (Or.inl ⟨rfl, tbT 918 (by decide +kernel) rfl, tbT 581 (by decide +kernel) rfl, tbT 582 (by decide +kernel) rfl⟩)⟩, fun _ => ⟨TX8, 10, rfl⟩⟩
theorem vcl_10_39 (NF : State → Prop) : pCL NF 10 (39, 1, 15, 3) := fun hN _ q hq => by
  have hq2 : gMT 15 = some q := hq
  cases (show gMT 15 = some (gm_15, 4) from rfl).symm.trans hq2
  exact ⟨yX1_hasLeave, cX1_hasLeave, (some .boolean), vm_15, ⟨by decide +kernel, Or.inr (Or.inl ⟨rfl, tbT 919 (by decide +kernel) rfl, tbT 784 (by decide +kernel) rfl, tbT 785 (by decide +kernel) rfl⟩)⟩, fun _ => ⟨TX1, 10, rfl⟩⟩
theorem vcl_10_43 (NF : State → Prop) : pCL NF 10 (43, 3, 132, 2) := fun hN _ q hq => by
  have hq2 : gMT 132 = some q := hq
  cases (show gMT 132 = some (gm_132, 2) from rfl).symm.trans hq2
  exact ⟨yX11_has, cX11_has, (some .boolean), vm_132, ⟨by decide +kernel, Or.inr (Or.inr (Or.inr (Or.inl ⟨rfl, ⟨"WardrobeRow", fun s h => hN s h _ (List.mem_of_getElem? (i := 15) rfl)⟩, tbT 638 (by decide +kernel) rfl⟩)))⟩, fun h => absurd h (by decide)⟩
theorem vcl_10_46 (NF : State → Prop) : pCL NF 10 (46, 3, 115, 1) := fun hN _ q hq => by
  have hq2 : gMT 115 = some q := hq
  cases (show gMT 115 = some (gm_115, 1) from rfl).symm.trans hq2
  exact ⟨yX11_bit, cX11_bit, (some .int), vm_115, ⟨by decide +kernel, Or.inr (Or.inr (Or.inr (Or.inl ⟨rfl, ⟨"WardrobeRow", fun s h => hN s h _ (List.mem_of_getElem? (i := 16) rfl)⟩, tbT 631 (by decide +kernel) rfl⟩)))⟩, fun h => absurd h (by decide)⟩
theorem vcl_10_52 (NF : State → Prop) : pCL NF 10 (52, 1, 16, 2) := fun hN _ q hq => by
  have hq2 : gMT 16 = some q := hq
  cases (show gMT 16 = some (gm_16, 2) from rfl).symm.trans hq2
  exact ⟨yX1_lives, cX1_lives, (some .boolean), vm_16, ⟨by decide +kernel, Or.inr (Or.inl ⟨rfl, tbT 913 (by decide +kernel) rfl, tbT 717 (by decide +kernel) rfl, tbT 718 (by decide +kernel) rfl⟩)⟩, fun _ => ⟨TX1, 10, rfl⟩⟩
theorem vcl_10_56 (NF : State → Prop) : pCL NF 10 (56, 1, 102, 5) := fun hN _ q hq => by
  have hq2 : gMT 102 = some q := hq
  cases (show gMT 102 = some (gm_102, 9) from rfl).symm.trans hq2
  exact ⟨yX10_enterable, cX10_enterable, (some .int), vm_102, ⟨by decide +kernel, Or.inr (Or.inl ⟨rfl, tbT 914 (by decide +kernel) rfl, tbT 915 (by decide +kernel) rfl, tbT 916 (by decide +kernel) rfl⟩)⟩, fun _ => ⟨TX10, 6, rfl⟩⟩
theorem vcl_10_66 (NF : State → Prop) : pCL NF 10 (66, 1, 78, 3) := fun hN _ q hq => by
  have hq2 : gMT 78 = some q := hq
  cases (show gMT 78 = some (gm_78, 5) from rfl).symm.trans hq2
  exact ⟨yX8_around, cX8_around, (some .int), vm_78, ⟨by decide +kernel, Or.inr (Or.inl ⟨rfl, tbT 923 (by decide +kernel) rfl, tbT 634 (by decide +kernel) rfl, tbT 635 (by decide +kernel) rfl⟩)⟩, fun _ => ⟨TX8, 10, rfl⟩⟩
theorem vcl_10_70 (NF : State → Prop) : pCL NF 10 (70, 0, 299, 1) := fun hN _ q hq => by
  have hq2 : gMT 299 = some q := hq
  cases (show gMT 299 = some (gm_299, 1) from rfl).symm.trans hq2
  exact ⟨yJ6_bitCount_0f7a4, cJ6_bitCount_0f7a4, (some .int), vm_299, ⟨by decide +kernel, Or.inl ⟨rfl, tbT 961 (by decide +kernel) rfl, tbT 752 (by decide +kernel) rfl⟩⟩, fun h => absurd h (by decide)⟩
theorem vcl_10_75 (NF : State → Prop) : pCL NF 10 (75, 1, 109, 5) := fun hN _ q hq => by
  have hq2 : gMT 109 = some q := hq
  cases (show gMT 109 = some (gm_109, 10) from rfl).symm.trans hq2
  exact ⟨yX10_reach, cX10_reach, (some .int), vm_109, ⟨by decide +kernel, Or.inr (Or.inl ⟨rfl, tbT 962 (by decide +kernel) rfl, tbT 950 (by decide +kernel) rfl, tbT 951 (by decide +kernel) rfl⟩)⟩, fun _ => ⟨TX10, 6, rfl⟩⟩
theorem vcl_10_78 (NF : State → Prop) : pCL NF 10 (78, 3, 136, 2) := fun hN _ q hq => by
  have hq2 : gMT 136 = some q := hq
  cases (show gMT 136 = some (gm_136, 2) from rfl).symm.trans hq2
  exact ⟨yX11_isBelow, cX11_isBelow, (some .boolean), vm_136, ⟨by decide +kernel, Or.inr (Or.inr (Or.inr (Or.inl ⟨rfl, ⟨"WardrobeRow", fun s h => hN s h _ (List.mem_of_getElem? (i := 17) rfl)⟩, tbT 585 (by decide +kernel) rfl⟩)))⟩, fun h => absurd h (by decide)⟩
theorem vcl_10_81 (NF : State → Prop) : pCL NF 10 (81, 1, 105, 6) := fun hN _ q hq => by
  have hq2 : gMT 105 = some q := hq
  cases (show gMT 105 = some (gm_105, 8) from rfl).symm.trans hq2
  exact ⟨yX10_layersTill, cX10_layersTill, (some .int), vm_105, ⟨by decide +kernel, Or.inr (Or.inl ⟨rfl, tbT 924 (by decide +kernel) rfl, tbT 926 (by decide +kernel) rfl, tbS (n := 6) 20 (by decide +kernel) rfl⟩)⟩, fun _ => ⟨TX10, 6, rfl⟩⟩
theorem vcl_10_85 (NF : State → Prop) : pCL NF 10 (85, 1, 107, 3) := fun hN _ q hq => by
  have hq2 : gMT 107 = some q := hq
  cases (show gMT 107 = some (gm_107, 5) from rfl).symm.trans hq2
  exact ⟨yX10_leastPath, cX10_leastPath, none, vm_107, ⟨by decide +kernel, Or.inr (Or.inl ⟨rfl, tbT 928 (by decide +kernel) rfl, tbT 930 (by decide +kernel) rfl, tbS (n := 6) 21 (by decide +kernel) rfl⟩)⟩, fun _ => ⟨TX10, 6, rfl⟩⟩
theorem vcl_10_89 (NF : State → Prop) : pCL NF 10 (89, 0, 106, 1) := fun hN _ q hq => by
  have hq2 : gMT 106 = some q := hq
  cases (show gMT 106 = some (gm_106, 2) from rfl).symm.trans hq2
  exact ⟨yX10_leastOf, cX10_leastOf, (some .int), vm_106, ⟨by decide +kernel, Or.inl ⟨rfl, tbT 932 (by decide +kernel) rfl, tbT 933 (by decide +kernel) rfl⟩⟩, fun h => absurd h (by decide)⟩
theorem vcl_10_92 (NF : State → Prop) : pCL NF 10 (92, 0, 303, 2) := fun hN _ q hq => by
  have hq2 : gMT 303 = some q := hq
  cases (show gMT 303 = some (gm_303, 2) from rfl).symm.trans hq2
  exact ⟨yJ9_min_7cf53, cJ9_min_7cf53, (some .int), vm_303, ⟨by decide +kernel, Or.inl ⟨rfl, tbT 939 (by decide +kernel) rfl, tbT 540 (by decide +kernel) rfl⟩⟩, fun h => absurd h (by decide)⟩
theorem vcl_10_100 (NF : State → Prop) : pCL NF 10 (100, 7, 0, 5) := fun _ h => absurd h (by decide)
theorem vcl_10 (NF : State → Prop) : ∀ x ∈ gcl__10, pCL NF 10 x := List.forall_mem_cons.mpr ⟨(vcl_10_28 NF), List.forall_mem_cons.mpr ⟨(vcl_10_39 NF), List.forall_mem_cons.mpr ⟨(vcl_10_43 NF), List.forall_mem_cons.mpr ⟨(vcl_10_46 NF), List.forall_mem_cons.mpr ⟨(vcl_10_52 NF), List.forall_mem_cons.mpr ⟨(vcl_10_56 NF), List.forall_mem_cons.mpr ⟨(vcl_10_66 NF), List.forall_mem_cons.mpr ⟨(vcl_10_70 NF), List.forall_mem_cons.mpr ⟨(vcl_10_75 NF), List.forall_mem_cons.mpr ⟨(vcl_10_78 NF), List.forall_mem_cons.mpr ⟨(vcl_10_81 NF), List.forall_mem_cons.mpr ⟨(vcl_10_85 NF), List.forall_mem_cons.mpr ⟨(vcl_10_89 NF), List.forall_mem_cons.mpr ⟨(vcl_10_92 NF), List.forall_mem_cons.mpr ⟨(vcl_10_100 NF), fun _ h => absurd h List.not_mem_nil⟩⟩⟩⟩⟩⟩⟩⟩⟩⟩⟩⟩⟩⟩⟩
theorem vcl_11_108 (NF : State → Prop) : pCL NF 11 (108, 1, 61, 2) := fun hN _ q hq => by
  have hq2 : gMT 61 = some q := hq
  cases (show gMT 61 = some (gm_61, 3) from rfl).symm.trans hq2
  exact ⟨yX7_append, cX7_append, none, vm_61, ⟨by decide +kernel, Or.inr (Or.inl ⟨rfl, tbT 506 (by decide +kernel) rfl, tbT 507 (by decide +kernel) rfl, tbT 508 (by decide +kernel) rfl⟩)⟩, fun _ => ⟨TX7, 11, rfl⟩⟩
theorem vcl_11_112 (NF : State → Prop) : pCL NF 11 (112, 1, 101, 2) := fun hN _ q hq => by
  have hq2 : gMT 101 = some q := hq
  cases (show gMT 101 = some (gm_101, 3) from rfl).symm.trans hq2
  exact ⟨yX9_readText, cX9_readText, (some .int), vm_101, ⟨by decide +kernel, Or.inr (Or.inl ⟨rfl, tbT 518 (by decide +kernel) rfl, tbT 519 (by decide +kernel) rfl, tbT 520 (by decide +kernel) rfl⟩)⟩, fun _ => ⟨TX9, 2, rfl⟩⟩
theorem vcl_11_122 (NF : State → Prop) : pCL NF 11 (122, 1, 79, 2) := fun hN _ q hq => by
  have hq2 : gMT 79 = some q := hq
  cases (show gMT 79 = some (gm_79, 2) from rfl).symm.trans hq2
  exact ⟨yX8_copyFrom, cX8_copyFrom, none, vm_79, ⟨by decide +kernel, Or.inr (Or.inl ⟨rfl, tbT 682 (by decide +kernel) rfl, tbT 683 (by decide +kernel) rfl, tbT 684 (by decide +kernel) rfl⟩)⟩, fun _ => ⟨TX8, 10, rfl⟩⟩
theorem vcl_11_129 (NF : State → Prop) : pCL NF 11 (129, 1, 11, 2) := fun hN _ q hq => by
  have hq2 : gMT 11 = some q := hq
  cases (show gMT 11 = some (gm_11, 2) from rfl).symm.trans hq2
  exact ⟨yX1_copyFrom, cX1_copyFrom, none, vm_11, ⟨by decide +kernel, Or.inr (Or.inl ⟨rfl, tbT 689 (by decide +kernel) rfl, tbT 690 (by decide +kernel) rfl, tbT 691 (by decide +kernel) rfl⟩)⟩, fun _ => ⟨TX1, 10, rfl⟩⟩
theorem vcl_11_132 (NF : State → Prop) : pCL NF 11 (132, 1, 50, 1) := fun hN _ q hq => by
  have hq2 : gMT 50 = some q := hq
  cases (show gMT 50 = some (gm_50, 1) from rfl).symm.trans hq2
  exact ⟨yX6_forget, cX6_forget, none, vm_50, ⟨by decide +kernel, Or.inr (Or.inl ⟨rfl, tbT 694 (by decide +kernel) rfl, tbT 695 (by decide +kernel) rfl, tbT 696 (by decide +kernel) rfl⟩)⟩, fun _ => ⟨TX6, 5, rfl⟩⟩
theorem vcl_11_135 (NF : State → Prop) : pCL NF 11 (135, 1, 44, 1) := fun hN _ q hq => by
  have hq2 : gMT 44 = some q := hq
  cases (show gMT 44 = some (gm_44, 1) from rfl).symm.trans hq2
  exact ⟨yX5_forget, cX5_forget, none, vm_44, ⟨by decide +kernel, Or.inr (Or.inl ⟨rfl, tbT 698 (by decide +kernel) rfl, tbT 699 (by decide +kernel) rfl, tbT 700 (by decide +kernel) rfl⟩)⟩, fun _ => ⟨TX5, 3, rfl⟩⟩
theorem vcl_11_139 (NF : State → Prop) : pCL NF 11 (139, 1, 141, 2) := fun hN _ q hq => by
  have hq2 : gMT 141 = some q := hq
  cases (show gMT 141 = some (gm_141, 2) from rfl).symm.trans hq2
  exact ⟨yX11_isRoom, cX11_isRoom, (some .boolean), vm_141, ⟨by decide +kernel, Or.inr (Or.inl ⟨rfl, tbT 761 (by decide +kernel) rfl, tbT 763 (by decide +kernel) rfl, tbS (n := 17) 14 (by decide +kernel) rfl⟩)⟩, fun _ => ⟨TX11, 17, rfl⟩⟩
theorem vcl_11_160 (NF : State → Prop) : pCL NF 11 (160, 0, 132, 2) := fun hN _ q hq => by
  have hq2 : gMT 132 = some q := hq
  cases (show gMT 132 = some (gm_132, 2) from rfl).symm.trans hq2
  exact ⟨yX11_has, cX11_has, (some .boolean), vm_132, ⟨by decide +kernel, Or.inl ⟨rfl, tbT 738 (by decide +kernel) rfl, tbT 638 (by decide +kernel) rfl⟩⟩, fun h => absurd h (by decide)⟩
theorem vcl_11_164 (NF : State → Prop) : pCL NF 11 (164, 1, 18, 2) := fun hN _ q hq => by
  have hq2 : gMT 18 = some q := hq
  cases (show gMT 18 = some (gm_18, 4) from rfl).symm.trans hq2
  exact ⟨yX1_peopleIn, cX1_peopleIn, (some .int), vm_18, ⟨by decide +kernel, Or.inr (Or.inl ⟨rfl, tbT 1358 (by decide +kernel) rfl, tbT 1256 (by decide +kernel) rfl, tbT 1257 (by decide +kernel) rfl⟩)⟩, fun _ => ⟨TX1, 10, rfl⟩⟩
theorem vcl_11_168 (NF : State → Prop) : pCL NF 11 (168, 1, 89, 2) := fun hN _ q hq => by
  have hq2 : gMT 89 = some q := hq
  cases (show gMT 89 = some (gm_89, 5) from rfl).symm.trans hq2
  exact ⟨yX8_passagesOf, cX8_passagesOf, (some .int), vm_89, ⟨by decide +kernel, Or.inr (Or.inl ⟨rfl, tbT 1359 (by decide +kernel) rfl, tbT 1261 (by decide +kernel) rfl, tbT 1262 (by decide +kernel) rfl⟩)⟩, fun _ => ⟨TX8, 10, rfl⟩⟩
theorem vcl_11_171 (NF : State → Prop) : pCL NF 11 (171, 1, 139, 2) := fun hN _ q hq => by
  have hq2 : gMT 139 = some q := hq
  cases (show gMT 139 = some (gm_139, 2) from rfl).symm.trans hq2
  exact ⟨yX11_isOwner, cX11_isOwner, (some .boolean), vm_139, ⟨by decide +kernel, Or.inr (Or.inl ⟨rfl, tbT 710 (by decide +kernel) rfl, tbT 712 (by decide +kernel) rfl, tbS (n := 17) 12 (by decide +kernel) rfl⟩)⟩, fun _ => ⟨TX11, 17, rfl⟩⟩
theorem vcl_11_177 (NF : State → Prop) : pCL NF 11 (177, 1, 16, 2) := fun hN _ q hq => by
  have hq2 : gMT 16 = some q := hq
  cases (show gMT 16 = some (gm_16, 2) from rfl).symm.trans hq2
  exact ⟨yX1_lives, cX1_lives, (some .boolean), vm_16, ⟨by decide +kernel, Or.inr (Or.inl ⟨rfl, tbT 716 (by decide +kernel) rfl, tbT 717 (by decide +kernel) rfl, tbT 718 (by decide +kernel) rfl⟩)⟩, fun _ => ⟨TX1, 10, rfl⟩⟩
theorem vcl_11_180 (NF : State → Prop) : pCL NF 11 (180, 1, 19, 2) := fun hN _ q hq => by
  have hq2 : gMT 19 = some q := hq
  cases (show gMT 19 = some (gm_19, 4) from rfl).symm.trans hq2
  exact ⟨yX1_roomsOf, cX1_roomsOf, (some .int), vm_19, ⟨by decide +kernel, Or.inr (Or.inl ⟨rfl, tbT 721 (by decide +kernel) rfl, tbT 722 (by decide +kernel) rfl, tbT 723 (by decide +kernel) rfl⟩)⟩, fun _ => ⟨TX1, 10, rfl⟩⟩
theorem vcl_11_183 (NF : State → Prop) : pCL NF 11 (183, 1, 76, 1) := fun hN _ q hq => by
  have hq2 : gMT 76 = some q := hq
  cases (show gMT 76 = some (gm_76, 1) from rfl).symm.trans hq2
  exact ⟨yX8_allRooms, cX8_allRooms, (some .int), vm_76, ⟨by decide +kernel, Or.inr (Or.inl ⟨rfl, tbT 726 (by decide +kernel) rfl, tbT 727 (by decide +kernel) rfl, tbT 728 (by decide +kernel) rfl⟩)⟩, fun _ => ⟨TX8, 10, rfl⟩⟩
theorem vcl_11_196 (NF : State → Prop) : pCL NF 11 (196, 1, 140, 2) := fun hN _ q hq => by
  have hq2 : gMT 140 = some q := hq
  cases (show gMT 140 = some (gm_140, 2) from rfl).symm.trans hq2
  exact ⟨yX11_isPassage, cX11_isPassage, (some .boolean), vm_140, ⟨by decide +kernel, Or.inr (Or.inl ⟨rfl, tbT 734 (by decide +kernel) rfl, tbT 736 (by decide +kernel) rfl, tbS (n := 17) 13 (by decide +kernel) rfl⟩)⟩, fun _ => ⟨TX11, 17, rfl⟩⟩
theorem vcl_11_220 (NF : State → Prop) : pCL NF 11 (220, 1, 10, 1) := fun hN _ q hq => by
  have hq2 : gMT 10 = some q := hq
  cases (show gMT 10 = some (gm_10, 3) from rfl).symm.trans hq2
  exact ⟨yX1_allGoings, cX1_allGoings, (some .int), vm_10, ⟨by decide +kernel, Or.inr (Or.inl ⟨rfl, tbT 743 (by decide +kernel) rfl, tbT 744 (by decide +kernel) rfl, tbT 745 (by decide +kernel) rfl⟩)⟩, fun _ => ⟨TX1, 10, rfl⟩⟩
theorem vcl_11_223 (NF : State → Prop) : pCL NF 11 (223, 1, 87, 2) := fun hN _ q hq => by
  have hq2 : gMT 87 = some q := hq
  cases (show gMT 87 = some (gm_87, 2) from rfl).symm.trans hq2
  exact ⟨yX8_manyOf, cX8_manyOf, (some .int), vm_87, ⟨by decide +kernel, Or.inr (Or.inl ⟨rfl, tbT 714 (by decide +kernel) rfl, tbT 581 (by decide +kernel) rfl, tbT 582 (by decide +kernel) rfl⟩)⟩, fun _ => ⟨TX8, 10, rfl⟩⟩
theorem vcl_11_229 (NF : State → Prop) : pCL NF 11 (229, 0, 299, 1) := fun hN _ q hq => by
  have hq2 : gMT 299 = some q := hq
  cases (show gMT 299 = some (gm_299, 1) from rfl).symm.trans hq2
  exact ⟨yJ6_bitCount_0f7a4, cJ6_bitCount_0f7a4, (some .int), vm_299, ⟨by decide +kernel, Or.inl ⟨rfl, tbT 751 (by decide +kernel) rfl, tbT 752 (by decide +kernel) rfl⟩⟩, fun h => absurd h (by decide)⟩
theorem vcl_11_234 (NF : State → Prop) : pCL NF 11 (234, 1, 46, 2) := fun hN _ q hq => by
  have hq2 : gMT 46 = some q := hq
  cases (show gMT 46 = some (gm_46, 2) from rfl).symm.trans hq2
  exact ⟨yX5_prepare, cX5_prepare, none, vm_46, ⟨by decide +kernel, Or.inr (Or.inl ⟨rfl, tbT 765 (by decide +kernel) rfl, tbT 766 (by decide +kernel) rfl, tbT 767 (by decide +kernel) rfl⟩)⟩, fun _ => ⟨TX5, 3, rfl⟩⟩
theorem vcl_11_237 (NF : State → Prop) : pCL NF 11 (237, 1, 14, 4) := fun hN _ q hq => by
  have hq2 : gMT 14 = some q := hq
  cases (show gMT 14 = some (gm_14, 5) from rfl).symm.trans hq2
  exact ⟨yX1_goTo, cX1_goTo, (some .int), vm_14, ⟨by decide +kernel, Or.inr (Or.inl ⟨rfl, tbT 777 (by decide +kernel) rfl, tbT 778 (by decide +kernel) rfl, tbT 779 (by decide +kernel) rfl⟩)⟩, fun _ => ⟨TX1, 10, rfl⟩⟩
theorem vcl_11_241 (NF : State → Prop) : pCL NF 11 (241, 1, 144, 2) := fun hN _ q hq => by
  have hq2 : gMT 144 = some q := hq
  cases (show gMT 144 = some (gm_144, 2) from rfl).symm.trans hq2
  exact ⟨yX11_keptIfDone, cX11_keptIfDone, (some .int), vm_144, ⟨by decide +kernel, Or.inr (Or.inl ⟨rfl, tbT 788 (by decide +kernel) rfl, tbT 790 (by decide +kernel) rfl, tbS (n := 17) 16 (by decide +kernel) rfl⟩)⟩, fun _ => ⟨TX11, 17, rfl⟩⟩
theorem vcl_11_244 (NF : State → Prop) : pCL NF 11 (244, 1, 43, 1) := fun hN _ q hq => by
  have hq2 : gMT 43 = some q := hq
  cases (show gMT 43 = some (gm_43, 1) from rfl).symm.trans hq2
  exact ⟨yX5_confirm, cX5_confirm, none, vm_43, ⟨by decide +kernel, Or.inr (Or.inl ⟨rfl, tbT 792 (by decide +kernel) rfl, tbT 793 (by decide +kernel) rfl, tbT 794 (by decide +kernel) rfl⟩)⟩, fun _ => ⟨TX5, 3, rfl⟩⟩
theorem vcl_11_247 (NF : State → Prop) : pCL NF 11 (247, 1, 111, 3) := fun hN _ q hq => by
  have hq2 : gMT 111 = some q := hq
  cases (show gMT 111 = some (gm_111, 3) from rfl).symm.trans hq2
  exact ⟨yX11_areTwoOwners, cX11_areTwoOwners, (some .boolean), vm_111, ⟨by decide +kernel, Or.inr (Or.inl ⟨rfl, tbT 804 (by decide +kernel) rfl, tbT 806 (by decide +kernel) rfl, tbS (n := 17) 17 (by decide +kernel) rfl⟩)⟩, fun _ => ⟨TX11, 17, rfl⟩⟩
theorem vcl_11_250 (NF : State → Prop) : pCL NF 11 (250, 1, 20, 4) := fun hN _ q hq => by
  have hq2 : gMT 20 = some q := hq
  cases (show gMT 20 = some (gm_20, 4) from rfl).symm.trans hq2
  exact ⟨yX1_sellTo, cX1_sellTo, (some .int), vm_20, ⟨by decide +kernel, Or.inr (Or.inl ⟨rfl, tbT 808 (by decide +kernel) rfl, tbT 809 (by decide +kernel) rfl, tbT 810 (by decide +kernel) rfl⟩)⟩, fun _ => ⟨TX1, 10, rfl⟩⟩
theorem vcl_11_254 (NF : State → Prop) : pCL NF 11 (254, 0, 143, 1) := fun hN _ q hq => by
  have hq2 : gMT 143 = some q := hq
  cases (show gMT 143 = some (gm_143, 1) from rfl).symm.trans hq2
  exact ⟨yX11_isSwitch, cX11_isSwitch, (some .boolean), vm_143, ⟨by decide +kernel, Or.inl ⟨rfl, tbT 816 (by decide +kernel) rfl, tbT 817 (by decide +kernel) rfl⟩⟩, fun h => absurd h (by decide)⟩
theorem vcl_11_257 (NF : State → Prop) : pCL NF 11 (257, 1, 22, 4) := fun hN _ q hq => by
  have hq2 : gMT 22 = some q := hq
  cases (show gMT 22 = some (gm_22, 4) from rfl).symm.trans hq2
  exact ⟨yX1_setLeave, cX1_setLeave, (some .int), vm_22, ⟨by decide +kernel, Or.inr (Or.inl ⟨rfl, tbT 819 (by decide +kernel) rfl, tbT 820 (by decide +kernel) rfl, tbT 821 (by decide +kernel) rfl⟩)⟩, fun _ => ⟨TX1, 10, rfl⟩⟩
theorem vcl_11_260 (NF : State → Prop) : pCL NF 11 (260, 1, 25, 3) := fun hN _ q hq => by
  have hq2 : gMT 25 = some q := hq
  cases (show gMT 25 = some (gm_25, 3) from rfl).symm.trans hq2
  exact ⟨yX1_willTo, cX1_willTo, (some .int), vm_25, ⟨by decide +kernel, Or.inr (Or.inl ⟨rfl, tbT 827 (by decide +kernel) rfl, tbT 828 (by decide +kernel) rfl, tbT 829 (by decide +kernel) rfl⟩)⟩, fun _ => ⟨TX1, 10, rfl⟩⟩
theorem vcl_11_264 (NF : State → Prop) : pCL NF 11 (264, 1, 12, 2) := fun hN _ q hq => by
  have hq2 : gMT 12 = some q := hq
  cases (show gMT 12 = some (gm_12, 4) from rfl).symm.trans hq2
  exact ⟨yX1_endLife, cX1_endLife, (some .int), vm_12, ⟨by decide +kernel, Or.inr (Or.inl ⟨rfl, tbT 835 (by decide +kernel) rfl, tbT 836 (by decide +kernel) rfl, tbT 837 (by decide +kernel) rfl⟩)⟩, fun _ => ⟨TX1, 10, rfl⟩⟩
theorem vcl_11_267 (NF : State → Prop) : pCL NF 11 (267, 1, 23, 4) := fun hN _ q hq => by
  have hq2 : gMT 23 = some q := hq
  cases (show gMT 23 = some (gm_23, 4) from rfl).symm.trans hq2
  exact ⟨yX1_setShut, cX1_setShut, (some .int), vm_23, ⟨by decide +kernel, Or.inr (Or.inl ⟨rfl, tbT 847 (by decide +kernel) rfl, tbT 848 (by decide +kernel) rfl, tbT 849 (by decide +kernel) rfl⟩)⟩, fun _ => ⟨TX1, 10, rfl⟩⟩
theorem vcl_11_270 (NF : State → Prop) : pCL NF 11 (270, 1, 21, 2) := fun hN _ q hq => by
  have hq2 : gMT 21 = some q := hq
  cases (show gMT 21 = some (gm_21, 3) from rfl).symm.trans hq2
  exact ⟨yX1_setFire, cX1_setFire, (some .int), vm_21, ⟨by decide +kernel, Or.inr (Or.inl ⟨rfl, tbT 855 (by decide +kernel) rfl, tbT 856 (by decide +kernel) rfl, tbT 857 (by decide +kernel) rfl⟩)⟩, fun _ => ⟨TX1, 10, rfl⟩⟩
theorem vcl_11_273 (NF : State → Prop) : pCL NF 11 (273, 1, 17, 3) := fun hN _ q hq => by
  have hq2 : gMT 17 = some q := hq
  cases (show gMT 17 = some (gm_17, 6) from rfl).symm.trans hq2
  exact ⟨yX1_passMinutes, cX1_passMinutes, (some .int), vm_17, ⟨by decide +kernel, Or.inr (Or.inl ⟨rfl, tbT 864 (by decide +kernel) rfl, tbT 865 (by decide +kernel) rfl, tbT 866 (by decide +kernel) rfl⟩)⟩, fun _ => ⟨TX1, 10, rfl⟩⟩
theorem vcl_11_277 (NF : State → Prop) : pCL NF 11 (277, 1, 47, 2) := fun hN _ q hq => by
  have hq2 : gMT 47 = some q := hq
  cases (show gMT 47 = some (gm_47, 2) from rfl).symm.trans hq2
  exact ⟨yX5_takeBack, cX5_takeBack, (some .int), vm_47, ⟨by decide +kernel, Or.inr (Or.inl ⟨rfl, tbT 873 (by decide +kernel) rfl, tbT 874 (by decide +kernel) rfl, tbT 875 (by decide +kernel) rfl⟩)⟩, fun _ => ⟨TX5, 3, rfl⟩⟩
theorem vcl_11_281 (NF : State → Prop) : pCL NF 11 (281, 1, 28, 5) := fun hN _ q hq => by
  have hq2 : gMT 28 = some q := hq
  cases (show gMT 28 = some (gm_28, 8) from rfl).symm.trans hq2
  exact ⟨yX2_liveMinutes, cX2_liveMinutes, none, vm_28, ⟨by decide +kernel, Or.inr (Or.inl ⟨rfl, tbT 881 (by decide +kernel) rfl, tbT 882 (by decide +kernel) rfl, tbT 883 (by decide +kernel) rfl⟩)⟩, fun _ => ⟨TX2, 1, rfl⟩⟩
theorem vcl_11_285 (NF : State → Prop) : pCL NF 11 (285, 1, 104, 5) := fun hN _ q hq => by
  have hq2 : gMT 104 = some q := hq
  cases (show gMT 104 = some (gm_104, 8) from rfl).symm.trans hq2
  exact ⟨yX10_find, cX10_find, (some .int), vm_104, ⟨by decide +kernel, Or.inr (Or.inl ⟨rfl, tbT 909 (by decide +kernel) rfl, tbT 910 (by decide +kernel) rfl, tbT 911 (by decide +kernel) rfl⟩)⟩, fun _ => ⟨TX10, 6, rfl⟩⟩
theorem vcl_11_289 (NF : State → Prop) : pCL NF 11 (289, 1, 110, 2) := fun hN _ q hq => by
  have hq2 : gMT 110 = some q := hq
  cases (show gMT 110 = some (gm_110, 2) from rfl).symm.trans hq2
  exact ⟨yX10_tellSteps, cX10_tellSteps, none, vm_110, ⟨by decide +kernel, Or.inr (Or.inl ⟨rfl, tbT 935 (by decide +kernel) rfl, tbT 936 (by decide +kernel) rfl, tbT 937 (by decide +kernel) rfl⟩)⟩, fun _ => ⟨TX10, 6, rfl⟩⟩
theorem vcl_11_294 (NF : State → Prop) : pCL NF 11 (294, 0, 136, 2) := fun hN _ q hq => by
  have hq2 : gMT 136 = some q := hq
  cases (show gMT 136 = some (gm_136, 2) from rfl).symm.trans hq2
  exact ⟨yX11_isBelow, cX11_isBelow, (some .boolean), vm_136, ⟨by decide +kernel, Or.inl ⟨rfl, tbT 715 (by decide +kernel) rfl, tbT 585 (by decide +kernel) rfl⟩⟩, fun h => absurd h (by decide)⟩
theorem vcl_11_300 (NF : State → Prop) : pCL NF 11 (300, 1, 109, 5) := fun hN _ q hq => by
  have hq2 : gMT 109 = some q := hq
  cases (show gMT 109 = some (gm_109, 10) from rfl).symm.trans hq2
  exact ⟨yX10_reach, cX10_reach, (some .int), vm_109, ⟨by decide +kernel, Or.inr (Or.inl ⟨rfl, tbT 949 (by decide +kernel) rfl, tbT 950 (by decide +kernel) rfl, tbT 951 (by decide +kernel) rfl⟩)⟩, fun _ => ⟨TX10, 6, rfl⟩⟩
theorem vcl_11_303 (NF : State → Prop) : pCL NF 11 (303, 1, 103, 5) := fun hN _ q hq => by
  have hq2 : gMT 103 = some q := hq
  cases (show gMT 103 = some (gm_103, 11) from rfl).symm.trans hq2
  exact ⟨yX10_fewestAsked, cX10_fewestAsked, (some .int), vm_103, ⟨by decide +kernel, Or.inr (Or.inl ⟨rfl, tbT 957 (by decide +kernel) rfl, tbT 958 (by decide +kernel) rfl, tbT 959 (by decide +kernel) rfl⟩)⟩, fun _ => ⟨TX10, 6, rfl⟩⟩
theorem vcl_11_309 (NF : State → Prop) : pCL NF 11 (309, 1, 108, 4) := fun hN _ q hq => by
  have hq2 : gMT 108 = some q := hq
  cases (show gMT 108 = some (gm_108, 7) from rfl).symm.trans hq2
  exact ⟨yX10_ownersMet, cX10_ownersMet, (some .int), vm_108, ⟨by decide +kernel, Or.inr (Or.inl ⟨rfl, tbT 971 (by decide +kernel) rfl, tbT 972 (by decide +kernel) rfl, tbT 973 (by decide +kernel) rfl⟩)⟩, fun _ => ⟨TX10, 6, rfl⟩⟩
theorem vcl_11_313 (NF : State → Prop) : pCL NF 11 (313, 1, 142, 1) := fun hN _ q hq => by
  have hq2 : gMT 142 = some q := hq
  cases (show gMT 142 = some (gm_142, 3) from rfl).symm.trans hq2
  exact ⟨yX11_isRowOfRooms, cX11_isRowOfRooms, (some .boolean), vm_142, ⟨by decide +kernel, Or.inr (Or.inl ⟨rfl, tbT 979 (by decide +kernel) rfl, tbT 981 (by decide +kernel) rfl, tbS (n := 17) 22 (by decide +kernel) rfl⟩)⟩, fun _ => ⟨TX11, 17, rfl⟩⟩
theorem vcl_11_317 (NF : State → Prop) : pCL NF 11 (317, 1, 171, 1) := fun hN _ q hq => by
  have hq2 : gMT 171 = some q := hq
  cases (show gMT 171 = some (gm_171, 3) from rfl).symm.trans hq2
  exact ⟨yX11_whoCanHaveWalked, cX11_whoCanHaveWalked, (some .int), vm_171, ⟨by decide +kernel, Or.inr (Or.inl ⟨rfl, tbT 984 (by decide +kernel) rfl, tbT 986 (by decide +kernel) rfl, tbS (n := 17) 23 (by decide +kernel) rfl⟩)⟩, fun _ => ⟨TX11, 17, rfl⟩⟩
theorem vcl_11_320 (NF : State → Prop) : pCL NF 11 (320, 1, 63, 2) := fun hN _ q hq => by
  have hq2 : gMT 63 = some q := hq
  cases (show gMT 63 = some (gm_63, 2) from rfl).symm.trans hq2
  exact ⟨yX7_byteAt, cX7_byteAt, (some .int), vm_63, ⟨by decide +kernel, Or.inr (Or.inl ⟨rfl, tbT 983 (by decide +kernel) rfl, tbT 543 (by decide +kernel) rfl, tbT 544 (by decide +kernel) rfl⟩)⟩, fun _ => ⟨TX7, 11, rfl⟩⟩
theorem vcl_11_323 (NF : State → Prop) : pCL NF 11 (323, 1, 119, 2) := fun hN _ q hq => by
  have hq2 : gMT 119 = some q := hq
  cases (show gMT 119 = some (gm_119, 6) from rfl).symm.trans hq2
  exact ⟨yX11_canHaveWalked, cX11_canHaveWalked, (some .boolean), vm_119, ⟨by decide +kernel, Or.inr (Or.inl ⟨rfl, tbT 988 (by decide +kernel) rfl, tbT 990 (by decide +kernel) rfl, tbS (n := 17) 24 (by decide +kernel) rfl⟩)⟩, fun _ => ⟨TX11, 17, rfl⟩⟩
theorem vcl_11_326 (NF : State → Prop) : pCL NF 11 (326, 0, 115, 1) := fun hN _ q hq => by
  have hq2 : gMT 115 = some q := hq
  cases (show gMT 115 = some (gm_115, 1) from rfl).symm.trans hq2
  exact ⟨yX11_bit, cX11_bit, (some .int), vm_115, ⟨by decide +kernel, Or.inl ⟨rfl, tbT 993 (by decide +kernel) rfl, tbT 631 (by decide +kernel) rfl⟩⟩, fun h => absurd h (by decide)⟩
theorem vcl_11_329 (NF : State → Prop) : pCL NF 11 (329, 1, 102, 5) := fun hN _ q hq => by
  have hq2 : gMT 102 = some q := hq
  cases (show gMT 102 = some (gm_102, 9) from rfl).symm.trans hq2
  exact ⟨yX10_enterable, cX10_enterable, (some .int), vm_102, ⟨by decide +kernel, Or.inr (Or.inl ⟨rfl, tbT 992 (by decide +kernel) rfl, tbT 915 (by decide +kernel) rfl, tbT 916 (by decide +kernel) rfl⟩)⟩, fun _ => ⟨TX10, 6, rfl⟩⟩
theorem vcl_11_332 (NF : State → Prop) : pCL NF 11 (332, 1, 78, 3) := fun hN _ q hq => by
  have hq2 : gMT 78 = some q := hq
  cases (show gMT 78 = some (gm_78, 5) from rfl).symm.trans hq2
  exact ⟨yX8_around, cX8_around, (some .int), vm_78, ⟨by decide +kernel, Or.inr (Or.inl ⟨rfl, tbT 994 (by decide +kernel) rfl, tbT 634 (by decide +kernel) rfl, tbT 635 (by decide +kernel) rfl⟩)⟩, fun _ => ⟨TX8, 10, rfl⟩⟩
theorem vcl_11_335 (NF : State → Prop) : pCL NF 11 (335, 1, 32, 4) := fun hN _ q hq => by
  have hq2 : gMT 32 = some q := hq
  cases (show gMT 32 = some (gm_32, 6) from rfl).symm.trans hq2
  exact ⟨yX3_minutesTill, cX3_minutesTill, (some .int), vm_32, ⟨by decide +kernel, Or.inr (Or.inl ⟨rfl, tbT 999 (by decide +kernel) rfl, tbT 1000 (by decide +kernel) rfl, tbT 1001 (by decide +kernel) rfl⟩)⟩, fun _ => ⟨TX3, 2, rfl⟩⟩
theorem vcl_11_339 (NF : State → Prop) : pCL NF 11 (339, 1, 29, 4) := fun hN _ q hq => by
  have hq2 : gMT 29 = some q := hq
  cases (show gMT 29 = some (gm_29, 6) from rfl).symm.trans hq2
  exact ⟨yX3_burntIn, cX3_burntIn, (some .int), vm_29, ⟨by decide +kernel, Or.inr (Or.inl ⟨rfl, tbT 1009 (by decide +kernel) rfl, tbT 1010 (by decide +kernel) rfl, tbT 1011 (by decide +kernel) rfl⟩)⟩, fun _ => ⟨TX3, 2, rfl⟩⟩
theorem vcl_11_342 (NF : State → Prop) : pCL NF 11 (342, 1, 30, 4) := fun hN _ q hq => by
  have hq2 : gMT 30 = some q := hq
  cases (show gMT 30 = some (gm_30, 5) from rfl).symm.trans hq2
  exact ⟨yX3_fewestDoors, cX3_fewestDoors, (some .int), vm_30, ⟨by decide +kernel, Or.inr (Or.inl ⟨rfl, tbT 1017 (by decide +kernel) rfl, tbT 1018 (by decide +kernel) rfl, tbT 1019 (by decide +kernel) rfl⟩)⟩, fun _ => ⟨TX3, 2, rfl⟩⟩
theorem vcl_11_345 (NF : State → Prop) : pCL NF 11 (345, 1, 42, 3) := fun hN _ q hq => by
  have hq2 : gMT 42 = some q := hq
  cases (show gMT 42 = some (gm_42, 6) from rfl).symm.trans hq2
  exact ⟨yX4_trade, cX4_trade, none, vm_42, ⟨by decide +kernel, Or.inr (Or.inl ⟨rfl, tbT 1035 (by decide +kernel) rfl, tbT 1036 (by decide +kernel) rfl, tbT 1037 (by decide +kernel) rfl⟩)⟩, fun _ => ⟨TX4, 8, rfl⟩⟩
theorem vcl_11_355 (NF : State → Prop) : pCL NF 11 (355, 1, 37, 3) := fun hN _ q hq => by
  have hq2 : gMT 37 = some q := hq
  cases (show gMT 37 = some (gm_37, 4) from rfl).symm.trans hq2
  exact ⟨yX4_findPrices, cX4_findPrices, (some .int), vm_37, ⟨by decide +kernel, Or.inr (Or.inl ⟨rfl, tbT 1071 (by decide +kernel) rfl, tbT 1072 (by decide +kernel) rfl, tbT 1073 (by decide +kernel) rfl⟩)⟩, fun _ => ⟨TX4, 8, rfl⟩⟩
theorem vcl_11_369 (NF : State → Prop) : pCL NF 11 (369, 1, 158, 2) := fun hN _ q hq => by
  have hq2 : gMT 158 = some q := hq
  cases (show gMT 158 = some (gm_158, 5) from rfl).symm.trans hq2
  exact ⟨yX11_roomsAfterDeaths, cX11_roomsAfterDeaths, (some .int), vm_158, ⟨by decide +kernel, Or.inr (Or.inl ⟨rfl, tbT 1099 (by decide +kernel) rfl, tbT 1101 (by decide +kernel) rfl, tbS (n := 17) 34 (by decide +kernel) rfl⟩)⟩, fun _ => ⟨TX11, 17, rfl⟩⟩
theorem vcl_11_372 (NF : State → Prop) : pCL NF 11 (372, 1, 24, 2) := fun hN _ q hq => by
  have hq2 : gMT 24 = some q := hq
  cases (show gMT 24 = some (gm_24, 4) from rfl).symm.trans hq2
  exact ⟨yX1_successorOf, cX1_successorOf, (some .int), vm_24, ⟨by decide +kernel, Or.inr (Or.inl ⟨rfl, tbT 1107 (by decide +kernel) rfl, tbT 840 (by decide +kernel) rfl, tbT 841 (by decide +kernel) rfl⟩)⟩, fun _ => ⟨TX1, 10, rfl⟩⟩
theorem vcl_11_375 (NF : State → Prop) : pCL NF 11 (375, 1, 134, 2) := fun hN _ q hq => by
  have hq2 : gMT 134 = some q := hq
  cases (show gMT 134 = some (gm_134, 4) from rfl).symm.trans hq2
  exact ⟨yX11_hostsIn, cX11_hostsIn, (some .int), vm_134, ⟨by decide +kernel, Or.inr (Or.inl ⟨rfl, tbT 1112 (by decide +kernel) rfl, tbT 1114 (by decide +kernel) rfl, tbS (n := 17) 35 (by decide +kernel) rfl⟩)⟩, fun _ => ⟨TX11, 17, rfl⟩⟩
theorem vcl_11_378 (NF : State → Prop) : pCL NF 11 (378, 1, 137, 3) := fun hN _ q hq => by
  have hq2 : gMT 137 = some q := hq
  cases (show gMT 137 = some (gm_137, 4) from rfl).symm.trans hq2
  exact ⟨yX11_isLetByAll, cX11_isLetByAll, (some .boolean), vm_137, ⟨by decide +kernel, Or.inr (Or.inl ⟨rfl, tbT 1116 (by decide +kernel) rfl, tbT 1118 (by decide +kernel) rfl, tbS (n := 17) 36 (by decide +kernel) rfl⟩)⟩, fun _ => ⟨TX11, 17, rfl⟩⟩
theorem vcl_11_381 (NF : State → Prop) : pCL NF 11 (381, 1, 90, 2) := fun hN _ q hq => by
  have hq2 : gMT 90 = some q := hq
  cases (show gMT 90 = some (gm_90, 4) from rfl).symm.trans hq2
  exact ⟨yX8_roomsIn, cX8_roomsIn, (some .int), vm_90, ⟨by decide +kernel, Or.inr (Or.inl ⟨rfl, tbT 1124 (by decide +kernel) rfl, tbT 1125 (by decide +kernel) rfl, tbT 1126 (by decide +kernel) rfl⟩)⟩, fun _ => ⟨TX8, 10, rfl⟩⟩
theorem vcl_11_384 (NF : State → Prop) : pCL NF 11 (384, 1, 138, 2) := fun hN _ q hq => by
  have hq2 : gMT 138 = some q := hq
  cases (show gMT 138 = some (gm_138, 4) from rfl).symm.trans hq2
  exact ⟨yX11_isMixed, cX11_isMixed, (some .boolean), vm_138, ⟨by decide +kernel, Or.inr (Or.inl ⟨rfl, tbT 1128 (by decide +kernel) rfl, tbT 1130 (by decide +kernel) rfl, tbS (n := 17) 37 (by decide +kernel) rfl⟩)⟩, fun _ => ⟨TX11, 17, rfl⟩⟩
theorem vcl_11_387 (NF : State → Prop) : pCL NF 11 (387, 1, 6, 3) := fun hN _ q hq => by
  have hq2 : gMT 6 = some q := hq
  cases (show gMT 6 = some (gm_6, 4) from rfl).symm.trans hq2
  exact ⟨yX0_readText, cX0_readText, (some .boolean), vm_6, ⟨by decide +kernel, Or.inr (Or.inl ⟨rfl, tbT 1136 (by decide +kernel) rfl, tbT 1137 (by decide +kernel) rfl, tbT 1138 (by decide +kernel) rfl⟩)⟩, fun _ => ⟨TX0, 10, rfl⟩⟩
theorem vcl_11_390 (NF : State → Prop) : pCL NF 11 (390, 1, 1, 3) := fun hN _ q hq => by
  have hq2 : gMT 1 = some q := hq
  cases (show gMT 1 = some (gm_1, 5) from rfl).symm.trans hq2
  exact ⟨yX0_live, cX0_live, (some .int), vm_1, ⟨by decide +kernel, Or.inr (Or.inl ⟨rfl, tbT 1170 (by decide +kernel) rfl, tbT 1171 (by decide +kernel) rfl, tbT 1172 (by decide +kernel) rfl⟩)⟩, fun _ => ⟨TX0, 10, rfl⟩⟩
theorem vcl_11_408 (NF : State → Prop) : pCL NF 11 (408, 1, 56, 3) := fun hN _ q hq => by
  have hq2 : gMT 56 = some q := hq
  cases (show gMT 56 = some (gm_56, 3) from rfl).symm.trans hq2
  exact ⟨yX6_readText, cX6_readText, (some .boolean), vm_56, ⟨by decide +kernel, Or.inr (Or.inl ⟨rfl, tbT 1197 (by decide +kernel) rfl, tbT 1198 (by decide +kernel) rfl, tbT 1199 (by decide +kernel) rfl⟩)⟩, fun _ => ⟨TX6, 5, rfl⟩⟩
theorem vcl_11_409 (NF : State → Prop) : pCL NF 11 (409, 1, 49, 2) := fun hN _ q hq => by
  have hq2 : gMT 49 = some q := hq
  cases (show gMT 49 = some (gm_49, 2) from rfl).symm.trans hq2
  exact ⟨yX6_copyFrom, cX6_copyFrom, none, vm_49, ⟨by decide +kernel, Or.inr (Or.inl ⟨rfl, tbT 1230 (by decide +kernel) rfl, tbT 1231 (by decide +kernel) rfl, tbT 1232 (by decide +kernel) rfl⟩)⟩, fun _ => ⟨TX6, 5, rfl⟩⟩
theorem vcl_11_415 (NF : State → Prop) : pCL NF 11 (415, 1, 59, 3) := fun hN _ q hq => by
  have hq2 : gMT 59 = some q := hq
  cases (show gMT 59 = some (gm_59, 6) from rfl).symm.trans hq2
  exact ⟨yX6_roomsSaid, cX6_roomsSaid, (some .int), vm_59, ⟨by decide +kernel, Or.inr (Or.inl ⟨rfl, tbT 1239 (by decide +kernel) rfl, tbT 1240 (by decide +kernel) rfl, tbT 1241 (by decide +kernel) rfl⟩)⟩, fun _ => ⟨TX6, 5, rfl⟩⟩
theorem vcl_11 (NF : State → Prop) : ∀ x ∈ gcl__11, pCL NF 11 x := List.forall_mem_cons.mpr ⟨(vcl_11_108 NF), List.forall_mem_cons.mpr ⟨(vcl_11_112 NF), List.forall_mem_cons.mpr ⟨(vcl_11_122 NF), List.forall_mem_cons.mpr ⟨(vcl_11_129 NF), List.forall_mem_cons.mpr ⟨(vcl_11_132 NF), List.forall_mem_cons.mpr ⟨(vcl_11_135 NF), List.forall_mem_cons.mpr ⟨(vcl_11_139 NF), List.forall_mem_cons.mpr ⟨(vcl_11_160 NF), List.forall_mem_cons.mpr ⟨(vcl_11_164 NF), List.forall_mem_cons.mpr ⟨(vcl_11_168 NF), List.forall_mem_cons.mpr ⟨(vcl_11_171 NF), List.forall_mem_cons.mpr ⟨(vcl_11_177 NF), List.forall_mem_cons.mpr ⟨(vcl_11_180 NF), List.forall_mem_cons.mpr ⟨(vcl_11_183 NF), List.forall_mem_cons.mpr ⟨(vcl_11_196 NF), List.forall_mem_cons.mpr ⟨(vcl_11_220 NF), List.forall_mem_cons.mpr ⟨(vcl_11_223 NF), List.forall_mem_cons.mpr ⟨(vcl_11_229 NF), List.forall_mem_cons.mpr ⟨(vcl_11_234 NF), List.forall_mem_cons.mpr ⟨(vcl_11_237 NF), List.forall_mem_cons.mpr ⟨(vcl_11_241 NF), List.forall_mem_cons.mpr ⟨(vcl_11_244 NF), List.forall_mem_cons.mpr ⟨(vcl_11_247 NF), List.forall_mem_cons.mpr ⟨(vcl_11_250 NF), List.forall_mem_cons.mpr ⟨(vcl_11_254 NF), List.forall_mem_cons.mpr ⟨(vcl_11_257 NF), List.forall_mem_cons.mpr ⟨(vcl_11_260 NF), List.forall_mem_cons.mpr ⟨(vcl_11_264 NF), List.forall_mem_cons.mpr ⟨(vcl_11_267 NF), List.forall_mem_cons.mpr ⟨(vcl_11_270 NF), List.forall_mem_cons.mpr ⟨(vcl_11_273 NF), List.forall_mem_cons.mpr ⟨(vcl_11_277 NF), List.forall_mem_cons.mpr ⟨(vcl_11_281 NF), List.forall_mem_cons.mpr ⟨(vcl_11_285 NF), List.forall_mem_cons.mpr ⟨(vcl_11_289 NF), List.forall_mem_cons.mpr ⟨(vcl_11_294 NF), List.forall_mem_cons.mpr ⟨(vcl_11_300 NF), List.forall_mem_cons.mpr ⟨(vcl_11_303 NF), List.forall_mem_cons.mpr ⟨(vcl_11_309 NF), List.forall_mem_cons.mpr ⟨(vcl_11_313 NF), List.forall_mem_cons.mpr ⟨(vcl_11_317 NF), List.forall_mem_cons.mpr ⟨(vcl_11_320 NF), List.forall_mem_cons.mpr ⟨(vcl_11_323 NF), List.forall_mem_cons.mpr ⟨(vcl_11_326 NF), List.forall_mem_cons.mpr ⟨(vcl_11_329 NF), List.forall_mem_cons.mpr ⟨(vcl_11_332 NF), List.forall_mem_cons.mpr ⟨(vcl_11_335 NF), List.forall_mem_cons.mpr ⟨(vcl_11_339 NF), List.forall_mem_cons.mpr ⟨(vcl_11_342 NF), List.forall_mem_cons.mpr ⟨(vcl_11_345 NF), List.forall_mem_cons.mpr ⟨(vcl_11_355 NF), List.forall_mem_cons.mpr ⟨(vcl_11_369 NF), List.forall_mem_cons.mpr ⟨(vcl_11_372 NF), List.forall_mem_cons.mpr ⟨(vcl_11_375 NF), List.forall_mem_cons.mpr ⟨(vcl_11_378 NF), List.forall_mem_cons.mpr ⟨(vcl_11_381 NF), List.forall_mem_cons.mpr ⟨(vcl_11_384 NF), List.forall_mem_cons.mpr ⟨(vcl_11_387 NF), List.forall_mem_cons.mpr ⟨(vcl_11_390 NF), List.forall_mem_cons.mpr ⟨(vcl_11_408 NF), List.forall_mem_cons.mpr ⟨(vcl_11_409 NF), List.forall_mem_cons.mpr ⟨(vcl_11_415 NF), fun _ h => absurd h List.not_mem_nil⟩⟩⟩⟩⟩⟩⟩⟩⟩⟩⟩⟩⟩⟩⟩⟩⟩⟩⟩⟩⟩⟩⟩⟩⟩⟩⟩⟩⟩⟩⟩⟩⟩⟩⟩⟩⟩⟩⟩⟩⟩⟩⟩⟩⟩⟩⟩⟩⟩⟩⟩⟩⟩⟩⟩⟩⟩⟩⟩⟩⟩⟩
