theorem vcl_12_10 (NF : State → Prop) : pCL NF 12 (10, 1, 209, 2) := fun hN _ q hq => by
  have hq2 : gMT 209 = some q := hq
  cases (show gMT 209 = some (gm_209, 3) from rfl).symm.trans hq2
  exact ⟨yX12_four, cX12_four, none, vm_209, ⟨by decide +kernel, Or.inr (Or.inl ⟨rfl, tbT 1364 (by decide +kernel) rfl, tbT 1366 (by decide +kernel) rfl, tbS (n := 55) 50 (by decide +kernel) rfl⟩)⟩, fun _ => ⟨TX12, 55, rfl⟩⟩
theorem vcl_12_174 (NF : State → Prop) : pCL NF 12 (174, 1, 252, 1) := fun hN _ q hq => by
  have hq2 : gMT 252 = some q := hq
  cases (show gMT 252 = some (gm_252, 1) from rfl).symm.trans hq2
  exact ⟨yX12_peek, cX12_peek, (some .int), vm_252, ⟨by decide +kernel, Or.inr (Or.inl ⟨rfl, tbT 1587 (by decide +kernel) rfl, tbT 1589 (by decide +kernel) rfl, tbS (n := 55) 53 (by decide +kernel) rfl⟩)⟩, fun _ => ⟨TX12, 55, rfl⟩⟩
theorem vcl_12_187 (NF : State → Prop) : pCL NF 12 (187, 0, 229, 1) := fun hN _ q hq => by
  have hq2 : gMT 229 = some q := hq
  cases (show gMT 229 = some (gm_229, 1) from rfl).symm.trans hq2
  exact ⟨yX12_isSmall, cX12_isSmall, (some .boolean), vm_229, ⟨by decide +kernel, Or.inl ⟨rfl, tbT 1591 (by decide +kernel) rfl, tbT 1592 (by decide +kernel) rfl⟩⟩, fun h => absurd h (by decide)⟩
theorem vcl_12_191 (NF : State → Prop) : pCL NF 12 (191, 0, 220, 1) := fun hN _ q hq => by
  have hq2 : gMT 220 = some q := hq
  cases (show gMT 220 = some (gm_220, 1) from rfl).symm.trans hq2
  exact ⟨yX12_isDigit, cX12_isDigit, (some .boolean), vm_220, ⟨by decide +kernel, Or.inl ⟨rfl, tbT 1594 (by decide +kernel) rfl, tbT 1595 (by decide +kernel) rfl⟩⟩, fun h => absurd h (by decide)⟩
theorem vcl_12_207 (NF : State → Prop) : pCL NF 12 (207, 1, 228, 2) := fun hN _ q hq => by
  have hq2 : gMT 228 = some q := hq
  cases (show gMT 228 = some (gm_228, 2) from rfl).symm.trans hq2
  exact ⟨yX12_isSign, cX12_isSign, (some .boolean), vm_228, ⟨by decide +kernel, Or.inr (Or.inl ⟨rfl, tbT 1655 (by decide +kernel) rfl, tbT 1657 (by decide +kernel) rfl, tbS (n := 55) 67 (by decide +kernel) rfl⟩)⟩, fun _ => ⟨TX12, 55, rfl⟩⟩
theorem vcl_12_210 (NF : State → Prop) : pCL NF 12 (210, 1, 178, 2) := fun hN _ q hq => by
  have hq2 : gMT 178 = some q := hq
  cases (show gMT 178 = some (gm_178, 2) from rfl).symm.trans hq2
  exact ⟨yX12_bad, cX12_bad, (some .boolean), vm_178, ⟨by decide +kernel, Or.inr (Or.inl ⟨rfl, tbT 1605 (by decide +kernel) rfl, tbT 1607 (by decide +kernel) rfl, tbS (n := 55) 56 (by decide +kernel) rfl⟩)⟩, fun _ => ⟨TX12, 55, rfl⟩⟩
theorem vcl_12_213 (NF : State → Prop) : pCL NF 12 (213, 1, 271, 1) := fun hN _ q hq => by
  have hq2 : gMT 271 = some q := hq
  cases (show gMT 271 = some (gm_271, 4) from rfl).symm.trans hq2
  exact ⟨yX12_skip, cX12_skip, none, vm_271, ⟨by decide +kernel, Or.inr (Or.inl ⟨rfl, tbT 1583 (by decide +kernel) rfl, tbT 1585 (by decide +kernel) rfl, tbS (n := 55) 52 (by decide +kernel) rfl⟩)⟩, fun _ => ⟨TX12, 55, rfl⟩⟩
theorem vcl_12_216 (NF : State → Prop) : pCL NF 12 (216, 0, 221, 3) := fun hN _ q hq => by
  have hq2 : gMT 221 = some q := hq
  cases (show gMT 221 = some (gm_221, 3) from rfl).symm.trans hq2
  exact ⟨yX12_isIn, cX12_isIn, (some .boolean), vm_221, ⟨by decide +kernel, Or.inl ⟨rfl, tbT 1648 (by decide +kernel) rfl, tbT 1649 (by decide +kernel) rfl⟩⟩, fun h => absurd h (by decide)⟩
theorem vcl_12_223 (NF : State → Prop) : pCL NF 12 (223, 1, 223, 1) := fun hN _ q hq => by
  have hq2 : gMT 223 = some q := hq
  cases (show gMT 223 = some (gm_223, 3) from rfl).symm.trans hq2
  exact ⟨yX12_isName, cX12_isName, (some .boolean), vm_223, ⟨by decide +kernel, Or.inr (Or.inl ⟨rfl, tbT 1613 (by decide +kernel) rfl, tbT 1615 (by decide +kernel) rfl, tbS (n := 55) 58 (by decide +kernel) rfl⟩)⟩, fun _ => ⟨TX12, 55, rfl⟩⟩
theorem vcl_12_227 (NF : State → Prop) : pCL NF 12 (227, 1, 207, 3) := fun hN _ q hq => by
  have hq2 : gMT 207 = some q := hq
  cases (show gMT 207 = some (gm_207, 4) from rfl).symm.trans hq2
  exact ⟨yX12_find, cX12_find, (some .int), vm_207, ⟨by decide +kernel, Or.inr (Or.inl ⟨rfl, tbT 1617 (by decide +kernel) rfl, tbT 1619 (by decide +kernel) rfl, tbS (n := 55) 59 (by decide +kernel) rfl⟩)⟩, fun _ => ⟨TX12, 55, rfl⟩⟩
theorem vcl_12_231 (NF : State → Prop) : pCL NF 12 (231, 1, 239, 3) := fun hN _ q hq => by
  have hq2 : gMT 239 = some q := hq
  cases (show gMT 239 = some (gm_239, 3) from rfl).symm.trans hq2
  exact ⟨yX12_looksAt, cX12_looksAt, (some .boolean), vm_239, ⟨by decide +kernel, Or.inr (Or.inl ⟨rfl, tbT 1625 (by decide +kernel) rfl, tbT 1627 (by decide +kernel) rfl, tbS (n := 55) 61 (by decide +kernel) rfl⟩)⟩, fun _ => ⟨TX12, 55, rfl⟩⟩
theorem vcl_12_235 (NF : State → Prop) : pCL NF 12 (235, 1, 230, 2) := fun hN _ q hq => by
  have hq2 : gMT 230 = some q := hq
  cases (show gMT 230 = some (gm_230, 3) from rfl).symm.trans hq2
  exact ⟨yX12_isWord, cX12_isWord, (some .boolean), vm_230, ⟨by decide +kernel, Or.inr (Or.inl ⟨rfl, tbT 1601 (by decide +kernel) rfl, tbT 1603 (by decide +kernel) rfl, tbS (n := 55) 55 (by decide +kernel) rfl⟩)⟩, fun _ => ⟨TX12, 55, rfl⟩⟩
theorem vcl_12_239 (NF : State → Prop) : pCL NF 12 (239, 1, 210, 2) := fun hN _ q hq => by
  have hq2 : gMT 210 = some q := hq
  cases (show gMT 210 = some (gm_210, 2) from rfl).symm.trans hq2
  exact ⟨yX12_fresh, cX12_fresh, (some .boolean), vm_210, ⟨by decide +kernel, Or.inr (Or.inl ⟨rfl, tbT 1609 (by decide +kernel) rfl, tbT 1611 (by decide +kernel) rfl, tbS (n := 55) 57 (by decide +kernel) rfl⟩)⟩, fun _ => ⟨TX12, 55, rfl⟩⟩
theorem vcl_12_242 (NF : State → Prop) : pCL NF 12 (242, 1, 277, 3) := fun hN _ q hq => by
  have hq2 : gMT 277 = some q := hq
  cases (show gMT 277 = some (gm_277, 3) from rfl).symm.trans hq2
  exact ⟨yX12_takesName, cX12_takesName, (some .boolean), vm_277, ⟨by decide +kernel, Or.inr (Or.inl ⟨rfl, tbT 1621 (by decide +kernel) rfl, tbT 1623 (by decide +kernel) rfl, tbS (n := 55) 60 (by decide +kernel) rfl⟩)⟩, fun _ => ⟨TX12, 55, rfl⟩⟩
theorem vcl_12_245 (NF : State → Prop) : pCL NF 12 (245, 1, 259, 2) := fun hN _ q hq => by
  have hq2 : gMT 259 = some q := hq
  cases (show gMT 259 = some (gm_259, 6) from rfl).symm.trans hq2
  exact ⟨yX12_readPassage, cX12_readPassage, (some .boolean), vm_259, ⟨by decide +kernel, Or.inr (Or.inl ⟨rfl, tbT 1629 (by decide +kernel) rfl, tbT 1631 (by decide +kernel) rfl, tbS (n := 55) 62 (by decide +kernel) rfl⟩)⟩, fun _ => ⟨TX12, 55, rfl⟩⟩
theorem vcl_12_248 (NF : State → Prop) : pCL NF 12 (248, 1, 258, 3) := fun hN _ q hq => by
  have hq2 : gMT 258 = some q := hq
  cases (show gMT 258 = some (gm_258, 3) from rfl).symm.trans hq2
  exact ⟨yX12_readOwner, cX12_readOwner, (some .boolean), vm_258, ⟨by decide +kernel, Or.inr (Or.inl ⟨rfl, tbT 1633 (by decide +kernel) rfl, tbT 1635 (by decide +kernel) rfl, tbS (n := 55) 63 (by decide +kernel) rfl⟩)⟩, fun _ => ⟨TX12, 55, rfl⟩⟩
theorem vcl_12_251 (NF : State → Prop) : pCL NF 12 (251, 1, 260, 3) := fun hN _ q hq => by
  have hq2 : gMT 260 = some q := hq
  cases (show gMT 260 = some (gm_260, 4) from rfl).symm.trans hq2
  exact ⟨yX12_readRoom, cX12_readRoom, (some .boolean), vm_260, ⟨by decide +kernel, Or.inr (Or.inl ⟨rfl, tbT 1640 (by decide +kernel) rfl, tbT 1642 (by decide +kernel) rfl, tbS (n := 55) 64 (by decide +kernel) rfl⟩)⟩, fun _ => ⟨TX12, 55, rfl⟩⟩
theorem vcl_12_254 (NF : State → Prop) : pCL NF 12 (254, 0, 182, 2) := fun hN _ q hq => by
  have hq2 : gMT 182 = some q := hq
  cases (show gMT 182 = some (gm_182, 2) from rfl).symm.trans hq2
  exact ⟨yX12_bitOf, cX12_bitOf, (some .boolean), vm_182, ⟨by decide +kernel, Or.inl ⟨rfl, tbT 1637 (by decide +kernel) rfl, tbT 1638 (by decide +kernel) rfl⟩⟩, fun h => absurd h (by decide)⟩
theorem vcl_12_257 (NF : State → Prop) : pCL NF 12 (257, 1, 276, 3) := fun hN _ q hq => by
  have hq2 : gMT 276 = some q := hq
  cases (show gMT 276 = some (gm_276, 3) from rfl).symm.trans hq2
  exact ⟨yX12_takes, cX12_takes, (some .boolean), vm_276, ⟨by decide +kernel, Or.inr (Or.inl ⟨rfl, tbT 1644 (by decide +kernel) rfl, tbT 1646 (by decide +kernel) rfl, tbS (n := 55) 65 (by decide +kernel) rfl⟩)⟩, fun _ => ⟨TX12, 55, rfl⟩⟩
theorem vcl_12_260 (NF : State → Prop) : pCL NF 12 (260, 1, 275, 2) := fun hN _ q hq => by
  have hq2 : gMT 275 = some q := hq
  cases (show gMT 275 = some (gm_275, 2) from rfl).symm.trans hq2
  exact ⟨yX12_taken, cX12_taken, none, vm_275, ⟨by decide +kernel, Or.inr (Or.inl ⟨rfl, tbT 1579 (by decide +kernel) rfl, tbT 1581 (by decide +kernel) rfl, tbS (n := 55) 51 (by decide +kernel) rfl⟩)⟩, fun _ => ⟨TX12, 55, rfl⟩⟩
theorem vcl_12_266 (NF : State → Prop) : pCL NF 12 (266, 1, 237, 1) := fun hN _ q hq => by
  have hq2 : gMT 237 = some q := hq
  cases (show gMT 237 = some (gm_237, 3) from rfl).symm.trans hq2
  exact ⟨yX12_line, cX12_line, (some .boolean), vm_237, ⟨by decide +kernel, Or.inr (Or.inl ⟨rfl, tbT 1597 (by decide +kernel) rfl, tbT 1599 (by decide +kernel) rfl, tbS (n := 55) 54 (by decide +kernel) rfl⟩)⟩, fun _ => ⟨TX12, 55, rfl⟩⟩
theorem vcl_12_269 (NF : State → Prop) : pCL NF 12 (269, 1, 270, 2) := fun hN _ q hq => by
  have hq2 : gMT 270 = some q := hq
  cases (show gMT 270 = some (gm_270, 2) from rfl).symm.trans hq2
  exact ⟨yX12_sign, cX12_sign, (some .boolean), vm_270, ⟨by decide +kernel, Or.inr (Or.inl ⟨rfl, tbT 1651 (by decide +kernel) rfl, tbT 1653 (by decide +kernel) rfl, tbS (n := 55) 66 (by decide +kernel) rfl⟩)⟩, fun _ => ⟨TX12, 55, rfl⟩⟩
theorem vcl_12_275 (NF : State → Prop) : pCL NF 12 (275, 1, 224, 2) := fun hN _ q hq => by
  have hq2 : gMT 224 = some q := hq
  cases (show gMT 224 = some (gm_224, 2) from rfl).symm.trans hq2
  exact ⟨yX12_isOwner, cX12_isOwner, (some .boolean), vm_224, ⟨by decide +kernel, Or.inr (Or.inl ⟨rfl, tbT 1691 (by decide +kernel) rfl, tbT 1693 (by decide +kernel) rfl, tbS (n := 55) 73 (by decide +kernel) rfl⟩)⟩, fun _ => ⟨TX12, 55, rfl⟩⟩
theorem vcl_12_278 (NF : State → Prop) : pCL NF 12 (278, 1, 226, 2) := fun hN _ q hq => by
  have hq2 : gMT 226 = some q := hq
  cases (show gMT 226 = some (gm_226, 2) from rfl).symm.trans hq2
  exact ⟨yX12_isRoom, cX12_isRoom, (some .boolean), vm_226, ⟨by decide +kernel, Or.inr (Or.inl ⟨rfl, tbT 1667 (by decide +kernel) rfl, tbT 1669 (by decide +kernel) rfl, tbS (n := 55) 68 (by decide +kernel) rfl⟩)⟩, fun _ => ⟨TX12, 55, rfl⟩⟩
theorem vcl_12_281 (NF : State → Prop) : pCL NF 12 (281, 1, 280, 2) := fun hN _ q hq => by
  have hq2 : gMT 280 = some q := hq
  cases (show gMT 280 = some (gm_280, 2) from rfl).symm.trans hq2
  exact ⟨yX12_throwsIf, cX12_throwsIf, (some .boolean), vm_280, ⟨by decide +kernel, Or.inr (Or.inl ⟨rfl, tbT 1671 (by decide +kernel) rfl, tbT 1673 (by decide +kernel) rfl, tbS (n := 55) 69 (by decide +kernel) rfl⟩)⟩, fun _ => ⟨TX12, 55, rfl⟩⟩
theorem vcl_12_285 (NF : State → Prop) : pCL NF 12 (285, 1, 218, 2) := fun hN _ q hq => by
  have hq2 : gMT 218 = some q := hq
  cases (show gMT 218 = some (gm_218, 2) from rfl).symm.trans hq2
  exact ⟨yX12_isBurnt, cX12_isBurnt, (some .boolean), vm_218, ⟨by decide +kernel, Or.inr (Or.inl ⟨rfl, tbT 1675 (by decide +kernel) rfl, tbT 1677 (by decide +kernel) rfl, tbS (n := 55) 70 (by decide +kernel) rfl⟩)⟩, fun _ => ⟨TX12, 55, rfl⟩⟩
theorem vcl_12_288 (NF : State → Prop) : pCL NF 12 (288, 1, 253, 2) := fun hN _ q hq => by
  have hq2 : gMT 253 = some q := hq
  cases (show gMT 253 = some (gm_253, 4) from rfl).symm.trans hq2
  exact ⟨yX12_peopleIn, cX12_peopleIn, (some .int), vm_253, ⟨by decide +kernel, Or.inr (Or.inl ⟨rfl, tbT 1679 (by decide +kernel) rfl, tbT 1681 (by decide +kernel) rfl, tbS (n := 55) 71 (by decide +kernel) rfl⟩)⟩, fun _ => ⟨TX12, 55, rfl⟩⟩
theorem vcl_12_292 (NF : State → Prop) : pCL NF 12 (292, 1, 251, 2) := fun hN _ q hq => by
  have hq2 : gMT 251 = some q := hq
  cases (show gMT 251 = some (gm_251, 4) from rfl).symm.trans hq2
  exact ⟨yX12_passagesOf, cX12_passagesOf, (some .int), vm_251, ⟨by decide +kernel, Or.inr (Or.inl ⟨rfl, tbT 1683 (by decide +kernel) rfl, tbT 1685 (by decide +kernel) rfl, tbS (n := 55) 72 (by decide +kernel) rfl⟩)⟩, fun _ => ⟨TX12, 55, rfl⟩⟩
theorem vcl_12_295 (NF : State → Prop) : pCL NF 12 (295, 1, 219, 2) := fun hN _ q hq => by
  have hq2 : gMT 219 = some q := hq
  cases (show gMT 219 = some (gm_219, 2) from rfl).symm.trans hq2
  exact ⟨yX12_isDead, cX12_isDead, (some .boolean), vm_219, ⟨by decide +kernel, Or.inr (Or.inl ⟨rfl, tbT 1695 (by decide +kernel) rfl, tbT 1697 (by decide +kernel) rfl, tbS (n := 55) 74 (by decide +kernel) rfl⟩)⟩, fun _ => ⟨TX12, 55, rfl⟩⟩
theorem vcl_12_298 (NF : State → Prop) : pCL NF 12 (298, 1, 264, 2) := fun hN _ q hq => by
  have hq2 : gMT 264 = some q := hq
  cases (show gMT 264 = some (gm_264, 4) from rfl).symm.trans hq2
  exact ⟨yX12_roomsOf, cX12_roomsOf, (some .int), vm_264, ⟨by decide +kernel, Or.inr (Or.inl ⟨rfl, tbT 1699 (by decide +kernel) rfl, tbT 1701 (by decide +kernel) rfl, tbS (n := 55) 75 (by decide +kernel) rfl⟩)⟩, fun _ => ⟨TX12, 55, rfl⟩⟩
theorem vcl_12_301 (NF : State → Prop) : pCL NF 12 (301, 1, 225, 2) := fun hN _ q hq => by
  have hq2 : gMT 225 = some q := hq
  cases (show gMT 225 = some (gm_225, 2) from rfl).symm.trans hq2
  exact ⟨yX12_isPassage, cX12_isPassage, (some .boolean), vm_225, ⟨by decide +kernel, Or.inr (Or.inl ⟨rfl, tbT 1707 (by decide +kernel) rfl, tbT 1709 (by decide +kernel) rfl, tbS (n := 55) 76 (by decide +kernel) rfl⟩)⟩, fun _ => ⟨TX12, 55, rfl⟩⟩
theorem vcl_12_304 (NF : State → Prop) : pCL NF 12 (304, 1, 181, 2) := fun hN _ q hq => by
  have hq2 : gMT 181 = some q := hq
  cases (show gMT 181 = some (gm_181, 4) from rfl).symm.trans hq2
  exact ⟨yX12_besides, cX12_besides, (some .int), vm_181, ⟨by decide +kernel, Or.inr (Or.inl ⟨rfl, tbT 1723 (by decide +kernel) rfl, tbT 1725 (by decide +kernel) rfl, tbS (n := 55) 78 (by decide +kernel) rfl⟩)⟩, fun _ => ⟨TX12, 55, rfl⟩⟩
theorem vcl_12_307 (NF : State → Prop) : pCL NF 12 (307, 1, 214, 3) := fun hN _ q hq => by
  have hq2 : gMT 214 = some q := hq
  cases (show gMT 214 = some (gm_214, 4) from rfl).symm.trans hq2
  exact ⟨yX12_hasLeave, cX12_hasLeave, (some .boolean), vm_214, ⟨by decide +kernel, Or.inr (Or.inl ⟨rfl, tbT 1727 (by decide +kernel) rfl, tbT 1729 (by decide +kernel) rfl, tbS (n := 55) 79 (by decide +kernel) rfl⟩)⟩, fun _ => ⟨TX12, 55, rfl⟩⟩
theorem vcl_12_310 (NF : State → Prop) : pCL NF 12 (310, 1, 216, 2) := fun hN _ q hq => by
  have hq2 : gMT 216 = some q := hq
  cases (show gMT 216 = some (gm_216, 4) from rfl).symm.trans hq2
  exact ⟨yX12_heirOf, cX12_heirOf, (some .int), vm_216, ⟨by decide +kernel, Or.inr (Or.inl ⟨rfl, tbT 1783 (by decide +kernel) rfl, tbT 1785 (by decide +kernel) rfl, tbS (n := 55) 88 (by decide +kernel) rfl⟩)⟩, fun _ => ⟨TX12, 55, rfl⟩⟩
theorem vcl_12_313 (NF : State → Prop) : pCL NF 12 (313, 1, 198, 2) := fun hN _ q hq => by
  have hq2 : gMT 198 = some q := hq
  cases (show gMT 198 = some (gm_198, 4) from rfl).symm.trans hq2
  exact ⟨yX12_dies, cX12_dies, none, vm_198, ⟨by decide +kernel, Or.inr (Or.inl ⟨rfl, tbT 1779 (by decide +kernel) rfl, tbT 1781 (by decide +kernel) rfl, tbS (n := 55) 87 (by decide +kernel) rfl⟩)⟩, fun _ => ⟨TX12, 55, rfl⟩⟩
theorem vcl_12_316 (NF : State → Prop) : pCL NF 12 (316, 1, 191, 1) := fun hN _ q hq => by
  have hq2 : gMT 191 = some q := hq
  cases (show gMT 191 = some (gm_191, 3) from rfl).symm.trans hq2
  exact ⟨yX12_catching, cX12_catching, (some .int), vm_191, ⟨by decide +kernel, Or.inr (Or.inl ⟨rfl, tbT 1815 (by decide +kernel) rfl, tbT 1817 (by decide +kernel) rfl, tbS (n := 55) 93 (by decide +kernel) rfl⟩)⟩, fun _ => ⟨TX12, 55, rfl⟩⟩
theorem vcl_12_319 (NF : State → Prop) : pCL NF 12 (319, 1, 188, 2) := fun hN _ q hq => by
  have hq2 : gMT 188 = some q := hq
  cases (show gMT 188 = some (gm_188, 3) from rfl).symm.trans hq2
  exact ⟨yX12_burns, cX12_burns, none, vm_188, ⟨by decide +kernel, Or.inr (Or.inl ⟨rfl, tbT 1799 (by decide +kernel) rfl, tbT 1801 (by decide +kernel) rfl, tbS (n := 55) 90 (by decide +kernel) rfl⟩)⟩, fun _ => ⟨TX12, 55, rfl⟩⟩
theorem vcl_12_322 (NF : State → Prop) : pCL NF 12 (322, 1, 288, 3) := fun hN _ q hq => by
  have hq2 : gMT 288 = some q := hq
  cases (show gMT 288 = some (gm_288, 3) from rfl).symm.trans hq2
  exact ⟨yX12_whyGo, cX12_whyGo, (some .int), vm_288, ⟨by decide +kernel, Or.inr (Or.inl ⟨rfl, tbT 1719 (by decide +kernel) rfl, tbT 1721 (by decide +kernel) rfl, tbS (n := 55) 77 (by decide +kernel) rfl⟩)⟩, fun _ => ⟨TX12, 55, rfl⟩⟩
theorem vcl_12_325 (NF : State → Prop) : pCL NF 12 (325, 1, 232, 1) := fun hN _ q hq => by
  have hq2 : gMT 232 = some q := hq
  cases (show gMT 232 = some (gm_232, 2) from rfl).symm.trans hq2
  exact ⟨yX12_keep, cX12_keep, none, vm_232, ⟨by decide +kernel, Or.inr (Or.inl ⟨rfl, tbT 1731 (by decide +kernel) rfl, tbT 1733 (by decide +kernel) rfl, tbS (n := 55) 80 (by decide +kernel) rfl⟩)⟩, fun _ => ⟨TX12, 55, rfl⟩⟩
theorem vcl_12_328 (NF : State → Prop) : pCL NF 12 (328, 1, 212, 3) := fun hN _ q hq => by
  have hq2 : gMT 212 = some q := hq
  cases (show gMT 212 = some (gm_212, 3) from rfl).symm.trans hq2
  exact ⟨yX12_goes, cX12_goes, none, vm_212, ⟨by decide +kernel, Or.inr (Or.inl ⟨rfl, tbT 1735 (by decide +kernel) rfl, tbT 1737 (by decide +kernel) rfl, tbS (n := 55) 81 (by decide +kernel) rfl⟩)⟩, fun _ => ⟨TX12, 55, rfl⟩⟩
theorem vcl_12_332 (NF : State → Prop) : pCL NF 12 (332, 1, 174, 3) := fun hN _ q hq => by
  have hq2 : gMT 174 = some q := hq
  cases (show gMT 174 = some (gm_174, 3) from rfl).symm.trans hq2
  exact ⟨yX12_areTwo, cX12_areTwo, (some .boolean), vm_174, ⟨by decide +kernel, Or.inr (Or.inl ⟨rfl, tbT 1747 (by decide +kernel) rfl, tbT 1749 (by decide +kernel) rfl, tbS (n := 55) 82 (by decide +kernel) rfl⟩)⟩, fun _ => ⟨TX12, 55, rfl⟩⟩
theorem vcl_12_335 (NF : State → Prop) : pCL NF 12 (335, 1, 291, 4) := fun hN _ q hq => by
  have hq2 : gMT 291 = some q := hq
  cases (show gMT 291 = some (gm_291, 4) from rfl).symm.trans hq2
  exact ⟨yX12_whySell, cX12_whySell, (some .int), vm_291, ⟨by decide +kernel, Or.inr (Or.inl ⟨rfl, tbT 1751 (by decide +kernel) rfl, tbT 1753 (by decide +kernel) rfl, tbS (n := 55) 83 (by decide +kernel) rfl⟩)⟩, fun _ => ⟨TX12, 55, rfl⟩⟩
theorem vcl_12_339 (NF : State → Prop) : pCL NF 12 (339, 1, 267, 3) := fun hN _ q hq => by
  have hq2 : gMT 267 = some q := hq
  cases (show gMT 267 = some (gm_267, 3) from rfl).symm.trans hq2
  exact ⟨yX12_sells, cX12_sells, none, vm_267, ⟨by decide +kernel, Or.inr (Or.inl ⟨rfl, tbT 1755 (by decide +kernel) rfl, tbT 1757 (by decide +kernel) rfl, tbS (n := 55) 84 (by decide +kernel) rfl⟩)⟩, fun _ => ⟨TX12, 55, rfl⟩⟩
theorem vcl_12_342 (NF : State → Prop) : pCL NF 12 (342, 1, 289, 4) := fun hN _ q hq => by
  have hq2 : gMT 289 = some q := hq
  cases (show gMT 289 = some (gm_289, 4) from rfl).symm.trans hq2
  exact ⟨yX12_whyLet, cX12_whyLet, (some .int), vm_289, ⟨by decide +kernel, Or.inr (Or.inl ⟨rfl, tbT 1763 (by decide +kernel) rfl, tbT 1765 (by decide +kernel) rfl, tbS (n := 55) 85 (by decide +kernel) rfl⟩)⟩, fun _ => ⟨TX12, 55, rfl⟩⟩
theorem vcl_12_345 (NF : State → Prop) : pCL NF 12 (345, 1, 293, 3) := fun hN _ q hq => by
  have hq2 : gMT 293 = some q := hq
  cases (show gMT 293 = some (gm_293, 3) from rfl).symm.trans hq2
  exact ⟨yX12_whyWill, cX12_whyWill, (some .int), vm_293, ⟨by decide +kernel, Or.inr (Or.inl ⟨rfl, tbT 1771 (by decide +kernel) rfl, tbT 1773 (by decide +kernel) rfl, tbS (n := 55) 86 (by decide +kernel) rfl⟩)⟩, fun _ => ⟨TX12, 55, rfl⟩⟩
theorem vcl_12_348 (NF : State → Prop) : pCL NF 12 (348, 1, 292, 3) := fun hN _ q hq => by
  have hq2 : gMT 292 = some q := hq
  cases (show gMT 292 = some (gm_292, 3) from rfl).symm.trans hq2
  exact ⟨yX12_whyShut, cX12_whyShut, (some .int), vm_292, ⟨by decide +kernel, Or.inr (Or.inl ⟨rfl, tbT 1791 (by decide +kernel) rfl, tbT 1793 (by decide +kernel) rfl, tbS (n := 55) 89 (by decide +kernel) rfl⟩)⟩, fun _ => ⟨TX12, 55, rfl⟩⟩
theorem vcl_12_351 (NF : State → Prop) : pCL NF 12 (351, 1, 173, 2) := fun hN _ q hq => by
  have hq2 : gMT 173 = some q := hq
  cases (show gMT 173 = some (gm_173, 2) from rfl).symm.trans hq2
  exact ⟨yX12_areMinutes, cX12_areMinutes, (some .boolean), vm_173, ⟨by decide +kernel, Or.inr (Or.inl ⟨rfl, tbT 1807 (by decide +kernel) rfl, tbT 1809 (by decide +kernel) rfl, tbS (n := 55) 91 (by decide +kernel) rfl⟩)⟩, fun _ => ⟨TX12, 55, rfl⟩⟩
theorem vcl_12_354 (NF : State → Prop) : pCL NF 12 (354, 1, 240, 1) := fun hN _ q hq => by
  have hq2 : gMT 240 = some q := hq
  cases (show gMT 240 = some (gm_240, 3) from rfl).symm.trans hq2
  exact ⟨yX12_minute, cX12_minute, none, vm_240, ⟨by decide +kernel, Or.inr (Or.inl ⟨rfl, tbT 1811 (by decide +kernel) rfl, tbT 1813 (by decide +kernel) rfl, tbS (n := 55) 92 (by decide +kernel) rfl⟩)⟩, fun _ => ⟨TX12, 55, rfl⟩⟩
theorem vcl_12_357 (NF : State → Prop) : pCL NF 12 (357, 1, 190, 3) := fun hN _ q hq => by
  have hq2 : gMT 190 = some q := hq
  cases (show gMT 190 = some (gm_190, 3) from rfl).symm.trans hq2
  exact ⟨yX12_canEnter, cX12_canEnter, (some .boolean), vm_190, ⟨by decide +kernel, Or.inr (Or.inl ⟨rfl, tbT 1831 (by decide +kernel) rfl, tbT 1833 (by decide +kernel) rfl, tbS (n := 55) 95 (by decide +kernel) rfl⟩)⟩, fun _ => ⟨TX12, 55, rfl⟩⟩
theorem vcl_12_360 (NF : State → Prop) : pCL NF 12 (360, 1, 273, 3) := fun hN _ q hq => by
  have hq2 : gMT 273 = some q := hq
  cases (show gMT 273 = some (gm_273, 7) from rfl).symm.trans hq2
  exact ⟨yX12_spreads, cX12_spreads, none, vm_273, ⟨by decide +kernel, Or.inr (Or.inl ⟨rfl, tbT 1835 (by decide +kernel) rfl, tbT 1837 (by decide +kernel) rfl, tbS (n := 55) 96 (by decide +kernel) rfl⟩)⟩, fun _ => ⟨TX12, 55, rfl⟩⟩
theorem vcl_12_363 (NF : State → Prop) : pCL NF 12 (363, 1, 287, 3) := fun hN _ q hq => by
  have hq2 : gMT 287 = some q := hq
  cases (show gMT 287 = some (gm_287, 8) from rfl).symm.trans hq2
  exact ⟨yX12_wayOf, cX12_wayOf, (some .int), vm_287, ⟨by decide +kernel, Or.inr (Or.inl ⟨rfl, tbT 1827 (by decide +kernel) rfl, tbT 1829 (by decide +kernel) rfl, tbS (n := 55) 94 (by decide +kernel) rfl⟩)⟩, fun _ => ⟨TX12, 55, rfl⟩⟩
theorem vcl_12_369 (NF : State → Prop) : pCL NF 12 (369, 1, 281, 1) := fun hN _ q hq => by
  have hq2 : gMT 281 = some q := hq
  cases (show gMT 281 = some (gm_281, 2) from rfl).symm.trans hq2
  exact ⟨yX12_tries, cX12_tries, none, vm_281, ⟨by decide +kernel, Or.inr (Or.inl ⟨rfl, tbT 1851 (by decide +kernel) rfl, tbT 1853 (by decide +kernel) rfl, tbS (n := 55) 97 (by decide +kernel) rfl⟩)⟩, fun _ => ⟨TX12, 55, rfl⟩⟩
theorem vcl_12_372 (NF : State → Prop) : pCL NF 12 (372, 0, 183, 1) := fun hN _ q hq => by
  have hq2 : gMT 183 = some q := hq
  cases (show gMT 183 = some (gm_183, 3) from rfl).symm.trans hq2
  exact ⟨yX12_bits, cX12_bits, (some .int), vm_183, ⟨by decide +kernel, Or.inl ⟨rfl, tbT 1855 (by decide +kernel) rfl, tbT 1856 (by decide +kernel) rfl⟩⟩, fun h => absurd h (by decide)⟩
theorem vcl_12_375 (NF : State → Prop) : pCL NF 12 (375, 1, 177, 1) := fun hN _ q hq => by
  have hq2 : gMT 177 = some q := hq
  cases (show gMT 177 = some (gm_177, 2) from rfl).symm.trans hq2
  exact ⟨yX12_back, cX12_back, none, vm_177, ⟨by decide +kernel, Or.inr (Or.inl ⟨rfl, tbT 1858 (by decide +kernel) rfl, tbT 1860 (by decide +kernel) rfl, tbS (n := 55) 98 (by decide +kernel) rfl⟩)⟩, fun _ => ⟨TX12, 55, rfl⟩⟩
theorem vcl_12_385 (NF : State → Prop) : pCL NF 12 (385, 1, 189, 2) := fun hN _ q hq => by
  have hq2 : gMT 189 = some q := hq
  cases (show gMT 189 = some (gm_189, 4) from rfl).symm.trans hq2
  exact ⟨yX12_burntIn, cX12_burntIn, (some .int), vm_189, ⟨by decide +kernel, Or.inr (Or.inl ⟨rfl, tbT 1874 (by decide +kernel) rfl, tbT 1876 (by decide +kernel) rfl, tbS (n := 55) 99 (by decide +kernel) rfl⟩)⟩, fun _ => ⟨TX12, 55, rfl⟩⟩
theorem vcl_12_388 (NF : State → Prop) : pCL NF 12 (388, 1, 193, 2) := fun hN _ q hq => by
  have hq2 : gMT 193 = some q := hq
  cases (show gMT 193 = some (gm_193, 5) from rfl).symm.trans hq2
  exact ⟨yX12_comesTo, cX12_comesTo, (some .boolean), vm_193, ⟨by decide +kernel, Or.inr (Or.inl ⟨rfl, tbT 1886 (by decide +kernel) rfl, tbT 1888 (by decide +kernel) rfl, tbS (n := 55) 100 (by decide +kernel) rfl⟩)⟩, fun _ => ⟨TX12, 55, rfl⟩⟩
theorem vcl_12_391 (NF : State → Prop) : pCL NF 12 (391, 1, 236, 3) := fun hN _ q hq => by
  have hq2 : gMT 236 = some q := hq
  cases (show gMT 236 = some (gm_236, 3) from rfl).symm.trans hq2
  exact ⟨yX12_likingOf, cX12_likingOf, (some .int), vm_236, ⟨by decide +kernel, Or.inr (Or.inl ⟨rfl, tbT 1902 (by decide +kernel) rfl, tbT 1904 (by decide +kernel) rfl, tbS (n := 55) 103 (by decide +kernel) rfl⟩)⟩, fun _ => ⟨TX12, 55, rfl⟩⟩
theorem vcl_12_397 (NF : State → Prop) : pCL NF 12 (397, 1, 254, 3) := fun hN _ q hq => by
  have hq2 : gMT 254 = some q := hq
  cases (show gMT 254 = some (gm_254, 6) from rfl).symm.trans hq2
  exact ⟨yX12_pointsTo, cX12_pointsTo, (some .int), vm_254, ⟨by decide +kernel, Or.inr (Or.inl ⟨rfl, tbT 1898 (by decide +kernel) rfl, tbT 1900 (by decide +kernel) rfl, tbS (n := 55) 102 (by decide +kernel) rfl⟩)⟩, fun _ => ⟨TX12, 55, rfl⟩⟩
theorem vcl_12_400 (NF : State → Prop) : pCL NF 12 (400, 1, 204, 1) := fun hN _ q hq => by
  have hq2 : gMT 204 = some q := hq
  cases (show gMT 204 = some (gm_204, 6) from rfl).symm.trans hq2
  exact ⟨yX12_exchanges, cX12_exchanges, none, vm_204, ⟨by decide +kernel, Or.inr (Or.inl ⟨rfl, tbT 1894 (by decide +kernel) rfl, tbT 1896 (by decide +kernel) rfl, tbS (n := 55) 101 (by decide +kernel) rfl⟩)⟩, fun _ => ⟨TX12, 55, rfl⟩⟩
theorem vcl_12_403 (NF : State → Prop) : pCL NF 12 (403, 1, 284, 2) := fun hN _ q hq => by
  have hq2 : gMT 284 = some q := hq
  cases (show gMT 284 = some (gm_284, 5) from rfl).symm.trans hq2
  exact ⟨yX12_wantOf, cX12_wantOf, (some .int), vm_284, ⟨by decide +kernel, Or.inr (Or.inl ⟨rfl, tbT 1914 (by decide +kernel) rfl, tbT 1916 (by decide +kernel) rfl, tbS (n := 55) 104 (by decide +kernel) rfl⟩)⟩, fun _ => ⟨TX12, 55, rfl⟩⟩
theorem vcl_12_409 (NF : State → Prop) : pCL NF 12 (409, 1, 245, 2) := fun hN _ q hq => by
  have hq2 : gMT 245 = some q := hq
  cases (show gMT 245 = some (gm_245, 2) from rfl).symm.trans hq2
  exact ⟨yX12_octet, cX12_octet, (some .int), vm_245, ⟨by decide +kernel, Or.inr (Or.inl ⟨rfl, tbT 1930 (by decide +kernel) rfl, tbT 1932 (by decide +kernel) rfl, tbS (n := 55) 105 (by decide +kernel) rfl⟩)⟩, fun _ => ⟨TX12, 55, rfl⟩⟩
theorem vcl_12_412 (NF : State → Prop) : pCL NF 12 (412, 1, 249, 2) := fun hN _ q hq => by
  have hq2 : gMT 249 = some q := hq
  cases (show gMT 249 = some (gm_249, 4) from rfl).symm.trans hq2
  exact ⟨yX12_ownersIn, cX12_ownersIn, (some .int), vm_249, ⟨by decide +kernel, Or.inr (Or.inl ⟨rfl, tbT 1946 (by decide +kernel) rfl, tbT 1948 (by decide +kernel) rfl, tbS (n := 55) 106 (by decide +kernel) rfl⟩)⟩, fun _ => ⟨TX12, 55, rfl⟩⟩
theorem vcl_12_419 (NF : State → Prop) : pCL NF 12 (419, 1, 199, 2) := fun hN _ q hq => by
  have hq2 : gMT 199 = some q := hq
  cases (show gMT 199 = some (gm_199, 2) from rfl).symm.trans hq2
  exact ⟨yX12_draw, cX12_draw, (some .int), vm_199, ⟨by decide +kernel, Or.inr (Or.inl ⟨rfl, tbT 1966 (by decide +kernel) rfl, tbT 1968 (by decide +kernel) rfl, tbS (n := 55) 109 (by decide +kernel) rfl⟩)⟩, fun _ => ⟨TX12, 55, rfl⟩⟩
theorem vcl_12_422 (NF : State → Prop) : pCL NF 12 (422, 1, 201, 2) := fun hN _ q hq => by
  have hq2 : gMT 201 = some q := hq
  cases (show gMT 201 = some (gm_201, 5) from rfl).symm.trans hq2
  exact ⟨yX12_draws, cX12_draws, none, vm_201, ⟨by decide +kernel, Or.inr (Or.inl ⟨rfl, tbT 1962 (by decide +kernel) rfl, tbT 1964 (by decide +kernel) rfl, tbS (n := 55) 108 (by decide +kernel) rfl⟩)⟩, fun _ => ⟨TX12, 55, rfl⟩⟩
theorem vcl_12_425 (NF : State → Prop) : pCL NF 12 (425, 1, 296, 3) := fun hN _ q hq => by
  have hq2 : gMT 296 = some q := hq
  cases (show gMT 296 = some (gm_296, 5) from rfl).symm.trans hq2
  exact ⟨yX12_years, cX12_years, none, vm_296, ⟨by decide +kernel, Or.inr (Or.inl ⟨rfl, tbT 1958 (by decide +kernel) rfl, tbT 1960 (by decide +kernel) rfl, tbS (n := 55) 107 (by decide +kernel) rfl⟩)⟩, fun _ => ⟨TX12, 55, rfl⟩⟩
theorem vcl_12_431 (NF : State → Prop) : pCL NF 12 (431, 1, 257, 4) := fun hN _ q hq => by
  have hq2 : gMT 257 = some q := hq
  cases (show gMT 257 = some (gm_257, 4) from rfl).symm.trans hq2
  exact ⟨yX12_putsName, cX12_putsName, (some .boolean), vm_257, ⟨by decide +kernel, Or.inr (Or.inl ⟨rfl, tbT 1983 (by decide +kernel) rfl, tbT 1985 (by decide +kernel) rfl, tbS (n := 55) 111 (by decide +kernel) rfl⟩)⟩, fun _ => ⟨TX12, 55, rfl⟩⟩
theorem vcl_12_434 (NF : State → Prop) : pCL NF 12 (434, 1, 185, 1) := fun hN _ q hq => by
  have hq2 : gMT 185 = some q := hq
  cases (show gMT 185 = some (gm_185, 4) from rfl).symm.trans hq2
  exact ⟨yX12_bookLine, cX12_bookLine, (some .boolean), vm_185, ⟨by decide +kernel, Or.inr (Or.inl ⟨rfl, tbT 1979 (by decide +kernel) rfl, tbT 1981 (by decide +kernel) rfl, tbS (n := 55) 110 (by decide +kernel) rfl⟩)⟩, fun _ => ⟨TX12, 55, rfl⟩⟩
theorem vcl_12_437 (NF : State → Prop) : pCL NF 12 (437, 1, 290, 5) := fun hN _ q hq => by
  have hq2 : gMT 290 = some q := hq
  cases (show gMT 290 = some (gm_290, 5) from rfl).symm.trans hq2
  exact ⟨yX12_whyLine, cX12_whyLine, (some .int), vm_290, ⟨by decide +kernel, Or.inr (Or.inl ⟨rfl, tbT 1987 (by decide +kernel) rfl, tbT 1989 (by decide +kernel) rfl, tbS (n := 55) 112 (by decide +kernel) rfl⟩)⟩, fun _ => ⟨TX12, 55, rfl⟩⟩
theorem vcl_12_441 (NF : State → Prop) : pCL NF 12 (441, 1, 238, 5) := fun hN _ q hq => by
  have hq2 : gMT 238 = some q := hq
  cases (show gMT 238 = some (gm_238, 6) from rfl).symm.trans hq2
  exact ⟨yX12_lives, cX12_lives, none, vm_238, ⟨by decide +kernel, Or.inr (Or.inl ⟨rfl, tbT 1991 (by decide +kernel) rfl, tbT 1993 (by decide +kernel) rfl, tbS (n := 55) 113 (by decide +kernel) rfl⟩)⟩, fun _ => ⟨TX12, 55, rfl⟩⟩
theorem vcl_12_454 (NF : State → Prop) : pCL NF 12 (454, 1, 192, 4) := fun hN _ q hq => by
  have hq2 : gMT 192 = some q := hq
  cases (show gMT 192 = some (gm_192, 4) from rfl).symm.trans hq2
  exact ⟨yX12_code, cX12_code, none, vm_192, ⟨by decide +kernel, Or.inr (Or.inl ⟨rfl, tbT 2007 (by decide +kernel) rfl, tbT 2009 (by decide +kernel) rfl, tbS (n := 55) 115 (by decide +kernel) rfl⟩)⟩, fun _ => ⟨TX12, 55, rfl⟩⟩
theorem vcl_12_461 (NF : State → Prop) : pCL NF 12 (461, 1, 233, 1) := fun hN _ q hq => by
  have hq2 : gMT 233 = some q := hq
  cases (show gMT 233 = some (gm_233, 1) from rfl).symm.trans hq2
  exact ⟨yX12_leafOf, cX12_leafOf, (some .int), vm_233, ⟨by decide +kernel, Or.inr (Or.inl ⟨rfl, tbT 2023 (by decide +kernel) rfl, tbT 2025 (by decide +kernel) rfl, tbS (n := 55) 119 (by decide +kernel) rfl⟩)⟩, fun _ => ⟨TX12, 55, rfl⟩⟩
theorem vcl_12_470 (NF : State → Prop) : pCL NF 12 (470, 1, 243, 1) := fun hN _ q hq => by
  have hq2 : gMT 243 = some q := hq
  cases (show gMT 243 = some (gm_243, 1) from rfl).symm.trans hq2
  exact ⟨yX12_nots, cX12_nots, none, vm_243, ⟨by decide +kernel, Or.inr (Or.inl ⟨rfl, tbT 2003 (by decide +kernel) rfl, tbT 2005 (by decide +kernel) rfl, tbS (n := 55) 114 (by decide +kernel) rfl⟩)⟩, fun _ => ⟨TX12, 55, rfl⟩⟩
theorem vcl_12_473 (NF : State → Prop) : pCL NF 12 (473, 1, 231, 2) := fun hN _ q hq => by
  have hq2 : gMT 231 = some q := hq
  cases (show gMT 231 = some (gm_231, 2) from rfl).symm.trans hq2
  exact ⟨yX12_joins, cX12_joins, none, vm_231, ⟨by decide +kernel, Or.inr (Or.inl ⟨rfl, tbT 2011 (by decide +kernel) rfl, tbT 2013 (by decide +kernel) rfl, tbS (n := 55) 116 (by decide +kernel) rfl⟩)⟩, fun _ => ⟨TX12, 55, rfl⟩⟩
theorem vcl_12_476 (NF : State → Prop) : pCL NF 12 (476, 1, 180, 1) := fun hN _ q hq => by
  have hq2 : gMT 180 = some q := hq
  cases (show gMT 180 = some (gm_180, 1) from rfl).symm.trans hq2
  exact ⟨yX12_behind, cX12_behind, (some .boolean), vm_180, ⟨by decide +kernel, Or.inr (Or.inl ⟨rfl, tbT 2015 (by decide +kernel) rfl, tbT 2017 (by decide +kernel) rfl, tbS (n := 55) 117 (by decide +kernel) rfl⟩)⟩, fun _ => ⟨TX12, 55, rfl⟩⟩
theorem vcl_12_479 (NF : State → Prop) : pCL NF 12 (479, 1, 247, 1) := fun hN _ q hq => by
  have hq2 : gMT 247 = some q := hq
  cases (show gMT 247 = some (gm_247, 5) from rfl).symm.trans hq2
  exact ⟨yX12_operand, cX12_operand, (some .boolean), vm_247, ⟨by decide +kernel, Or.inr (Or.inl ⟨rfl, tbT 2019 (by decide +kernel) rfl, tbT 2021 (by decide +kernel) rfl, tbS (n := 55) 118 (by decide +kernel) rfl⟩)⟩, fun _ => ⟨TX12, 55, rfl⟩⟩
theorem vcl_12_482 (NF : State → Prop) : pCL NF 12 (482, 1, 295, 2) := fun hN _ q hq => by
  have hq2 : gMT 295 = some q := hq
  cases (show gMT 295 = some (gm_295, 4) from rfl).symm.trans hq2
  exact ⟨yX12_worthOf, cX12_worthOf, (some .int), vm_295, ⟨by decide +kernel, Or.inr (Or.inl ⟨rfl, tbT 2039 (by decide +kernel) rfl, tbT 2041 (by decide +kernel) rfl, tbS (n := 55) 122 (by decide +kernel) rfl⟩)⟩, fun _ => ⟨TX12, 55, rfl⟩⟩
theorem vcl_12_485 (NF : State → Prop) : pCL NF 12 (485, 1, 222, 5) := fun hN _ q hq => by
  have hq2 : gMT 222 = some q := hq
  cases (show gMT 222 = some (gm_222, 6) from rfl).symm.trans hq2
  exact ⟨yX12_isLeaf, cX12_isLeaf, (some .boolean), vm_222, ⟨by decide +kernel, Or.inr (Or.inl ⟨rfl, tbT 2035 (by decide +kernel) rfl, tbT 2037 (by decide +kernel) rfl, tbS (n := 55) 121 (by decide +kernel) rfl⟩)⟩, fun _ => ⟨TX12, 55, rfl⟩⟩
theorem vcl_12_489 (NF : State → Prop) : pCL NF 12 (489, 1, 227, 2) := fun hN _ q hq => by
  have hq2 : gMT 227 = some q := hq
  cases (show gMT 227 = some (gm_227, 5) from rfl).symm.trans hq2
  exact ⟨yX12_isSaid, cX12_isSaid, (some .boolean), vm_227, ⟨by decide +kernel, Or.inr (Or.inl ⟨rfl, tbT 2031 (by decide +kernel) rfl, tbT 2033 (by decide +kernel) rfl, tbS (n := 55) 120 (by decide +kernel) rfl⟩)⟩, fun _ => ⟨TX12, 55, rfl⟩⟩
theorem vcl_12 (NF : State → Prop) : ∀ x ∈ gcl__12, pCL NF 12 x := List.forall_mem_cons.mpr ⟨(vcl_12_10 NF), List.forall_mem_cons.mpr ⟨(vcl_12_174 NF), List.forall_mem_cons.mpr ⟨(vcl_12_187 NF), List.forall_mem_cons.mpr ⟨(vcl_12_191 NF), List.forall_mem_cons.mpr ⟨(vcl_12_207 NF), List.forall_mem_cons.mpr ⟨(vcl_12_210 NF), List.forall_mem_cons.mpr ⟨(vcl_12_213 NF), List.forall_mem_cons.mpr ⟨(vcl_12_216 NF), List.forall_mem_cons.mpr ⟨(vcl_12_223 NF), List.forall_mem_cons.mpr ⟨(vcl_12_227 NF), List.forall_mem_cons.mpr ⟨(vcl_12_231 NF), List.forall_mem_cons.mpr ⟨(vcl_12_235 NF), List.forall_mem_cons.mpr ⟨(vcl_12_239 NF), List.forall_mem_cons.mpr ⟨(vcl_12_242 NF), List.forall_mem_cons.mpr ⟨(vcl_12_245 NF), List.forall_mem_cons.mpr ⟨(vcl_12_248 NF), List.forall_mem_cons.mpr ⟨(vcl_12_251 NF), List.forall_mem_cons.mpr ⟨(vcl_12_254 NF), List.forall_mem_cons.mpr ⟨(vcl_12_257 NF), List.forall_mem_cons.mpr ⟨(vcl_12_260 NF), List.forall_mem_cons.mpr ⟨(vcl_12_266 NF), List.forall_mem_cons.mpr ⟨(vcl_12_269 NF), List.forall_mem_cons.mpr ⟨(vcl_12_275 NF), List.forall_mem_cons.mpr ⟨(vcl_12_278 NF), List.forall_mem_cons.mpr ⟨(vcl_12_281 NF), List.forall_mem_cons.mpr ⟨(vcl_12_285 NF), List.forall_mem_cons.mpr ⟨(vcl_12_288 NF), List.forall_mem_cons.mpr ⟨(vcl_12_292 NF), List.forall_mem_cons.mpr ⟨(vcl_12_295 NF), List.forall_mem_cons.mpr ⟨(vcl_12_298 NF), List.forall_mem_cons.mpr ⟨(vcl_12_301 NF), List.forall_mem_cons.mpr ⟨(vcl_12_304 NF), List.forall_mem_cons.mpr ⟨(vcl_12_307 NF), List.forall_mem_cons.mpr ⟨(vcl_12_310 NF), List.forall_mem_cons.mpr ⟨(vcl_12_313 NF), List.forall_mem_cons.mpr ⟨(vcl_12_316 NF), List.forall_mem_cons.mpr ⟨(vcl_12_319 NF), List.forall_mem_cons.mpr ⟨(vcl_12_322 NF), List.forall_mem_cons.mpr ⟨(vcl_12_325 NF), List.forall_mem_cons.mpr ⟨(vcl_12_328 NF), List.forall_mem_cons.mpr ⟨(vcl_12_332 NF), List.forall_mem_cons.mpr ⟨(vcl_12_335 NF), List.forall_mem_cons.mpr ⟨(vcl_12_339 NF), List.forall_mem_cons.mpr ⟨(vcl_12_342 NF), List.forall_mem_cons.mpr ⟨(vcl_12_345 NF), List.forall_mem_cons.mpr ⟨(vcl_12_348 NF), List.forall_mem_cons.mpr ⟨(vcl_12_351 NF), List.forall_mem_cons.mpr ⟨(vcl_12_354 NF), List.forall_mem_cons.mpr ⟨(vcl_12_357 NF), List.forall_mem_cons.mpr ⟨(vcl_12_360 NF), List.forall_mem_cons.mpr ⟨(vcl_12_363 NF), List.forall_mem_cons.mpr ⟨(vcl_12_369 NF), List.forall_mem_cons.mpr ⟨(vcl_12_372 NF), List.forall_mem_cons.mpr ⟨(vcl_12_375 NF), List.forall_mem_cons.mpr ⟨(vcl_12_385 NF), List.forall_mem_cons.mpr ⟨(vcl_12_388 NF), List.forall_mem_cons.mpr ⟨(vcl_12_391 NF), List.forall_mem_cons.mpr ⟨(vcl_12_397 NF), List.forall_mem_cons.mpr ⟨(vcl_12_400 NF), List.forall_mem_cons.mpr ⟨(vcl_12_403 NF), List.forall_mem_cons.mpr ⟨(vcl_12_409 NF), List.forall_mem_cons.mpr ⟨(vcl_12_412 NF), List.forall_mem_cons.mpr ⟨(vcl_12_419 NF), List.forall_mem_cons.mpr ⟨(vcl_12_422 NF), List.forall_mem_cons.mpr ⟨(vcl_12_425 NF), List.forall_mem_cons.mpr ⟨(vcl_12_431 NF), List.forall_mem_cons.mpr ⟨(vcl_12_434 NF), List.forall_mem_cons.mpr ⟨(vcl_12_437 NF), List.forall_mem_cons.mpr ⟨(vcl_12_441 NF), List.forall_mem_cons.mpr ⟨(vcl_12_454 NF), List.forall_mem_cons.mpr ⟨(vcl_12_461 NF), List.forall_mem_cons.mpr ⟨(vcl_12_470 NF), List.forall_mem_cons.mpr ⟨(vcl_12_473 NF), List.forall_mem_cons.mpr ⟨(vcl_12_476 NF), List.forall_mem_cons.mpr ⟨(vcl_12_479 NF), List.forall_mem_cons.mpr ⟨(vcl_12_482 NF), List.forall_mem_cons.mpr ⟨(vcl_12_485 NF), List.forall_mem_cons.mpr ⟨(vcl_12_489 NF), fun _ h => absurd h List.not_mem_nil⟩⟩⟩⟩⟩⟩⟩⟩⟩⟩⟩⟩⟩⟩⟩⟩⟩⟩⟩⟩⟩⟩⟩⟩⟩⟩⟩⟩⟩⟩⟩⟩⟩⟩⟩⟩⟩⟩⟩⟩⟩⟩⟩⟩⟩⟩⟩⟩⟩⟩⟩⟩⟩⟩⟩⟩⟩⟩⟩⟩⟩⟩⟩⟩⟩⟩⟩⟩⟩⟩⟩⟩⟩⟩⟩⟩⟩⟩
theorem vcl_13_7 (NF : State → Prop) : pCL NF 13 (7, 1, 157, 3) := fun hN _ q hq => by
  have hq2 : gMT 157 = some q := hq
  cases (show gMT 157 = some (gm_157, 3) from rfl).symm.trans hq2
  exact ⟨yX11_room, cX11_room, (some .int), vm_157, ⟨by decide +kernel, Or.inr (Or.inl ⟨rfl, tbT 1289 (by decide +kernel) rfl, tbT 1290 (by decide +kernel) rfl, tbT 1291 (by decide +kernel) rfl⟩)⟩, fun _ => ⟨TX11, 17, rfl⟩⟩
theorem vcl_13_19 (NF : State → Prop) : pCL NF 13 (19, 1, 128, 6) := fun hN _ q hq => by
  have hq2 : gMT 128 = some q := hq
  cases (show gMT 128 = some (gm_128, 6) from rfl).symm.trans hq2
  exact ⟨yX11_feed, cX11_feed, (some .int), vm_128, ⟨by decide +kernel, Or.inr (Or.inl ⟨rfl, tbT 502 (by decide +kernel) rfl, tbT 503 (by decide +kernel) rfl, tbT 504 (by decide +kernel) rfl⟩)⟩, fun _ => ⟨TX11, 17, rfl⟩⟩
theorem vcl_13_23 (NF : State → Prop) : pCL NF 13 (23, 1, 206, 6) := fun hN _ q hq => by
  have hq2 : gMT 206 = some q := hq
  cases (show gMT 206 = some (gm_206, 6) from rfl).symm.trans hq2
  exact ⟨yX12_feed, cX12_feed, (some .int), vm_206, ⟨by decide +kernel, Or.inr (Or.inl ⟨rfl, tbT 1360 (by decide +kernel) rfl, tbT 1361 (by decide +kernel) rfl, tbT 1362 (by decide +kernel) rfl⟩)⟩, fun _ => ⟨TX12, 55, rfl⟩⟩
theorem vcl_13_24 (NF : State → Prop) : pCL NF 13 (24, 1, 125, 2) := fun hN _ q hq => by
  have hq2 : gMT 125 = some q := hq
  cases (show gMT 125 = some (gm_125, 2) from rfl).symm.trans hq2
  exact ⟨yX11_end, cX11_end, (some .boolean), vm_125, ⟨by decide +kernel, Or.inr (Or.inl ⟨rfl, tbT 510 (by decide +kernel) rfl, tbT 511 (by decide +kernel) rfl, tbT 512 (by decide +kernel) rfl⟩)⟩, fun _ => ⟨TX11, 17, rfl⟩⟩
theorem vcl_13_28 (NF : State → Prop) : pCL NF 13 (28, 1, 202, 2) := fun hN _ q hq => by
  have hq2 : gMT 202 = some q := hq
  cases (show gMT 202 = some (gm_202, 2) from rfl).symm.trans hq2
  exact ⟨yX12_end, cX12_end, (some .boolean), vm_202, ⟨by decide +kernel, Or.inr (Or.inl ⟨rfl, tbT 1369 (by decide +kernel) rfl, tbT 1370 (by decide +kernel) rfl, tbT 1371 (by decide +kernel) rfl⟩)⟩, fun _ => ⟨TX12, 55, rfl⟩⟩
theorem vcl_13_29 (NF : State → Prop) : pCL NF 13 (29, 1, 165, 1) := fun hN _ q hq => by
  have hq2 : gMT 165 = some q := hq
  cases (show gMT 165 = some (gm_165, 2) from rfl).symm.trans hq2
  exact ⟨yX11_terrace, cX11_terrace, (some .int), vm_165, ⟨by decide +kernel, Or.inr (Or.inl ⟨rfl, tbT 514 (by decide +kernel) rfl, tbT 515 (by decide +kernel) rfl, tbT 516 (by decide +kernel) rfl⟩)⟩, fun _ => ⟨TX11, 17, rfl⟩⟩
theorem vcl_13_33 (NF : State → Prop) : pCL NF 13 (33, 1, 278, 1) := fun hN _ q hq => by
  have hq2 : gMT 278 = some q := hq
  cases (show gMT 278 = some (gm_278, 2) from rfl).symm.trans hq2
  exact ⟨yX12_terrace, cX12_terrace, (some .int), vm_278, ⟨by decide +kernel, Or.inr (Or.inl ⟨rfl, tbT 1575 (by decide +kernel) rfl, tbT 1576 (by decide +kernel) rfl, tbT 1577 (by decide +kernel) rfl⟩)⟩, fun _ => ⟨TX12, 55, rfl⟩⟩
theorem vcl_13_34 (NF : State → Prop) : pCL NF 13 (34, 1, 127, 1) := fun hN _ q hq => by
  have hq2 : gMT 127 = some q := hq
  cases (show gMT 127 = some (gm_127, 1) from rfl).symm.trans hq2
  exact ⟨yX11_fault, cX11_fault, (some .int), vm_127, ⟨by decide +kernel, Or.inr (Or.inl ⟨rfl, tbT 702 (by decide +kernel) rfl, tbT 703 (by decide +kernel) rfl, tbT 704 (by decide +kernel) rfl⟩)⟩, fun _ => ⟨TX11, 17, rfl⟩⟩
theorem vcl_13_37 (NF : State → Prop) : pCL NF 13 (37, 1, 205, 1) := fun hN _ q hq => by
  have hq2 : gMT 205 = some q := hq
  cases (show gMT 205 = some (gm_205, 1) from rfl).symm.trans hq2
  exact ⟨yX12_fault, cX12_fault, (some .int), vm_205, ⟨by decide +kernel, Or.inr (Or.inl ⟨rfl, tbT 1659 (by decide +kernel) rfl, tbT 1660 (by decide +kernel) rfl, tbT 1661 (by decide +kernel) rfl⟩)⟩, fun _ => ⟨TX12, 55, rfl⟩⟩
theorem vcl_13_38 (NF : State → Prop) : pCL NF 13 (38, 9, 298, 4) := fun _ h => absurd h (by decide)
theorem vcl_13_43 (NF : State → Prop) : pCL NF 13 (43, 1, 263, 3) := fun hN _ q hq => by
  have hq2 : gMT 263 = some q := hq
  cases (show gMT 263 = some (gm_263, 3) from rfl).symm.trans hq2
  exact ⟨yX12_room, cX12_room, (some .int), vm_263, ⟨by decide +kernel, Or.inr (Or.inl ⟨rfl, tbT 1663 (by decide +kernel) rfl, tbT 1664 (by decide +kernel) rfl, tbT 1665 (by decide +kernel) rfl⟩)⟩, fun _ => ⟨TX12, 55, rfl⟩⟩
theorem vcl_13_44 (NF : State → Prop) : pCL NF 13 (44, 1, 151, 3) := fun hN _ q hq => by
  have hq2 : gMT 151 = some q := hq
  cases (show gMT 151 = some (gm_151, 3) from rfl).symm.trans hq2
  exact ⟨yX11_owner, cX11_owner, (some .int), vm_151, ⟨by decide +kernel, Or.inr (Or.inl ⟨rfl, tbT 706 (by decide +kernel) rfl, tbT 707 (by decide +kernel) rfl, tbT 708 (by decide +kernel) rfl⟩)⟩, fun _ => ⟨TX11, 17, rfl⟩⟩
theorem vcl_13_47 (NF : State → Prop) : pCL NF 13 (47, 1, 248, 3) := fun hN _ q hq => by
  have hq2 : gMT 248 = some q := hq
  cases (show gMT 248 = some (gm_248, 3) from rfl).symm.trans hq2
  exact ⟨yX12_owner, cX12_owner, (some .int), vm_248, ⟨by decide +kernel, Or.inr (Or.inl ⟨rfl, tbT 1687 (by decide +kernel) rfl, tbT 1688 (by decide +kernel) rfl, tbT 1689 (by decide +kernel) rfl⟩)⟩, fun _ => ⟨TX12, 55, rfl⟩⟩
theorem vcl_13_48 (NF : State → Prop) : pCL NF 13 (48, 1, 152, 3) := fun hN _ q hq => by
  have hq2 : gMT 152 = some q := hq
  cases (show gMT 152 = some (gm_152, 3) from rfl).symm.trans hq2
  exact ⟨yX11_passage, cX11_passage, (some .int), vm_152, ⟨by decide +kernel, Or.inr (Or.inl ⟨rfl, tbT 730 (by decide +kernel) rfl, tbT 731 (by decide +kernel) rfl, tbT 732 (by decide +kernel) rfl⟩)⟩, fun _ => ⟨TX11, 17, rfl⟩⟩
theorem vcl_13_51 (NF : State → Prop) : pCL NF 13 (51, 1, 250, 3) := fun hN _ q hq => by
  have hq2 : gMT 250 = some q := hq
  cases (show gMT 250 = some (gm_250, 3) from rfl).symm.trans hq2
  exact ⟨yX12_passage, cX12_passage, (some .int), vm_250, ⟨by decide +kernel, Or.inr (Or.inl ⟨rfl, tbT 1703 (by decide +kernel) rfl, tbT 1704 (by decide +kernel) rfl, tbT 1705 (by decide +kernel) rfl⟩)⟩, fun _ => ⟨TX12, 55, rfl⟩⟩
theorem vcl_13_52 (NF : State → Prop) : pCL NF 13 (52, 1, 149, 2) := fun hN _ q hq => by
  have hq2 : gMT 149 = some q := hq
  cases (show gMT 149 = some (gm_149, 2) from rfl).symm.trans hq2
  exact ⟨yX11_now, cX11_now, (some .int), vm_149, ⟨by decide +kernel, Or.inr (Or.inl ⟨rfl, tbT 739 (by decide +kernel) rfl, tbT 740 (by decide +kernel) rfl, tbT 741 (by decide +kernel) rfl⟩)⟩, fun _ => ⟨TX11, 17, rfl⟩⟩
theorem vcl_13_56 (NF : State → Prop) : pCL NF 13 (56, 1, 244, 2) := fun hN _ q hq => by
  have hq2 : gMT 244 = some q := hq
  cases (show gMT 244 = some (gm_244, 2) from rfl).symm.trans hq2
  exact ⟨yX12_now, cX12_now, (some .int), vm_244, ⟨by decide +kernel, Or.inr (Or.inl ⟨rfl, tbT 1711 (by decide +kernel) rfl, tbT 1712 (by decide +kernel) rfl, tbT 1713 (by decide +kernel) rfl⟩)⟩, fun _ => ⟨TX12, 55, rfl⟩⟩
theorem vcl_13_57 (NF : State → Prop) : pCL NF 13 (57, 1, 130, 3) := fun hN _ q hq => by
  have hq2 : gMT 130 = some q := hq
  cases (show gMT 130 = some (gm_130, 3) from rfl).symm.trans hq2
  exact ⟨yX11_go, cX11_go, (some .int), vm_130, ⟨by decide +kernel, Or.inr (Or.inl ⟨rfl, tbT 757 (by decide +kernel) rfl, tbT 758 (by decide +kernel) rfl, tbT 759 (by decide +kernel) rfl⟩)⟩, fun _ => ⟨TX11, 17, rfl⟩⟩
theorem vcl_13_60 (NF : State → Prop) : pCL NF 13 (60, 1, 211, 3) := fun hN _ q hq => by
  have hq2 : gMT 211 = some q := hq
  cases (show gMT 211 = some (gm_211, 4) from rfl).symm.trans hq2
  exact ⟨yX12_go, cX12_go, (some .int), vm_211, ⟨by decide +kernel, Or.inr (Or.inl ⟨rfl, tbT 1715 (by decide +kernel) rfl, tbT 1716 (by decide +kernel) rfl, tbT 1717 (by decide +kernel) rfl⟩)⟩, fun _ => ⟨TX12, 55, rfl⟩⟩
theorem vcl_13_61 (NF : State → Prop) : pCL NF 13 (61, 1, 145, 2) := fun hN _ q hq => by
  have hq2 : gMT 145 = some q := hq
  cases (show gMT 145 = some (gm_145, 2) from rfl).symm.trans hq2
  exact ⟨yX11_leave, cX11_leave, (some .boolean), vm_145, ⟨by decide +kernel, Or.inr (Or.inl ⟨rfl, tbT 796 (by decide +kernel) rfl, tbT 797 (by decide +kernel) rfl, tbT 798 (by decide +kernel) rfl⟩)⟩, fun _ => ⟨TX11, 17, rfl⟩⟩
theorem vcl_13_64 (NF : State → Prop) : pCL NF 13 (64, 1, 234, 2) := fun hN _ q hq => by
  have hq2 : gMT 234 = some q := hq
  cases (show gMT 234 = some (gm_234, 2) from rfl).symm.trans hq2
  exact ⟨yX12_leave, cX12_leave, (some .boolean), vm_234, ⟨by decide +kernel, Or.inr (Or.inl ⟨rfl, tbT 1739 (by decide +kernel) rfl, tbT 1740 (by decide +kernel) rfl, tbT 1741 (by decide +kernel) rfl⟩)⟩, fun _ => ⟨TX12, 55, rfl⟩⟩
