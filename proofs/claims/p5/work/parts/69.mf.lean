theorem vcl_13_65 (NF : State → Prop) : pCL NF 13 (65, 1, 160, 4) := fun hN _ q hq => by
  have hq2 : gMT 160 = some q := hq
  cases (show gMT 160 = some (gm_160, 4) from rfl).symm.trans hq2
  exact ⟨yX11_sell, cX11_sell, (some .int), vm_160, ⟨by decide +kernel, Or.inr (Or.inl ⟨rfl, tbT 800 (by decide +kernel) rfl, tbT 801 (by decide +kernel) rfl, tbT 802 (by decide +kernel) rfl⟩)⟩, fun _ => ⟨TX11, 17, rfl⟩⟩
theorem vcl_13_69 (NF : State → Prop) : pCL NF 13 (69, 1, 266, 4) := fun hN _ q hq => by
  have hq2 : gMT 266 = some q := hq
  cases (show gMT 266 = some (gm_266, 5) from rfl).symm.trans hq2
  exact ⟨yX12_sell, cX12_sell, (some .int), vm_266, ⟨by decide +kernel, Or.inr (Or.inl ⟨rfl, tbT 1743 (by decide +kernel) rfl, tbT 1744 (by decide +kernel) rfl, tbT 1745 (by decide +kernel) rfl⟩)⟩, fun _ => ⟨TX12, 55, rfl⟩⟩
theorem vcl_13_70 (NF : State → Prop) : pCL NF 13 (70, 1, 146, 4) := fun hN _ q hq => by
  have hq2 : gMT 146 = some q := hq
  cases (show gMT 146 = some (gm_146, 4) from rfl).symm.trans hq2
  exact ⟨yX11_let, cX11_let, (some .int), vm_146, ⟨by decide +kernel, Or.inr (Or.inl ⟨rfl, tbT 812 (by decide +kernel) rfl, tbT 813 (by decide +kernel) rfl, tbT 814 (by decide +kernel) rfl⟩)⟩, fun _ => ⟨TX11, 17, rfl⟩⟩
theorem vcl_13_73 (NF : State → Prop) : pCL NF 13 (73, 1, 235, 4) := fun hN _ q hq => by
  have hq2 : gMT 235 = some q := hq
  cases (show gMT 235 = some (gm_235, 5) from rfl).symm.trans hq2
  exact ⟨yX12_let, cX12_let, (some .int), vm_235, ⟨by decide +kernel, Or.inr (Or.inl ⟨rfl, tbT 1759 (by decide +kernel) rfl, tbT 1760 (by decide +kernel) rfl, tbT 1761 (by decide +kernel) rfl⟩)⟩, fun _ => ⟨TX12, 55, rfl⟩⟩
theorem vcl_13_74 (NF : State → Prop) : pCL NF 13 (74, 1, 172, 3) := fun hN _ q hq => by
  have hq2 : gMT 172 = some q := hq
  cases (show gMT 172 = some (gm_172, 3) from rfl).symm.trans hq2
  exact ⟨yX11_will, cX11_will, (some .int), vm_172, ⟨by decide +kernel, Or.inr (Or.inl ⟨rfl, tbT 823 (by decide +kernel) rfl, tbT 824 (by decide +kernel) rfl, tbT 825 (by decide +kernel) rfl⟩)⟩, fun _ => ⟨TX11, 17, rfl⟩⟩
theorem vcl_13_77 (NF : State → Prop) : pCL NF 13 (77, 1, 294, 3) := fun hN _ q hq => by
  have hq2 : gMT 294 = some q := hq
  cases (show gMT 294 = some (gm_294, 4) from rfl).symm.trans hq2
  exact ⟨yX12_will, cX12_will, (some .int), vm_294, ⟨by decide +kernel, Or.inr (Or.inl ⟨rfl, tbT 1767 (by decide +kernel) rfl, tbT 1768 (by decide +kernel) rfl, tbT 1769 (by decide +kernel) rfl⟩)⟩, fun _ => ⟨TX12, 55, rfl⟩⟩
theorem vcl_13_78 (NF : State → Prop) : pCL NF 13 (78, 1, 123, 2) := fun hN _ q hq => by
  have hq2 : gMT 123 = some q := hq
  cases (show gMT 123 = some (gm_123, 2) from rfl).symm.trans hq2
  exact ⟨yX11_die, cX11_die, (some .int), vm_123, ⟨by decide +kernel, Or.inr (Or.inl ⟨rfl, tbT 831 (by decide +kernel) rfl, tbT 832 (by decide +kernel) rfl, tbT 833 (by decide +kernel) rfl⟩)⟩, fun _ => ⟨TX11, 17, rfl⟩⟩
theorem vcl_13_81 (NF : State → Prop) : pCL NF 13 (81, 1, 197, 2) := fun hN _ q hq => by
  have hq2 : gMT 197 = some q := hq
  cases (show gMT 197 = some (gm_197, 2) from rfl).symm.trans hq2
  exact ⟨yX12_die, cX12_die, (some .int), vm_197, ⟨by decide +kernel, Or.inr (Or.inl ⟨rfl, tbT 1775 (by decide +kernel) rfl, tbT 1776 (by decide +kernel) rfl, tbT 1777 (by decide +kernel) rfl⟩)⟩, fun _ => ⟨TX12, 55, rfl⟩⟩
theorem vcl_13_82 (NF : State → Prop) : pCL NF 13 (82, 1, 162, 3) := fun hN _ q hq => by
  have hq2 : gMT 162 = some q := hq
  cases (show gMT 162 = some (gm_162, 3) from rfl).symm.trans hq2
  exact ⟨yX11_shut, cX11_shut, (some .int), vm_162, ⟨by decide +kernel, Or.inr (Or.inl ⟨rfl, tbT 843 (by decide +kernel) rfl, tbT 844 (by decide +kernel) rfl, tbT 845 (by decide +kernel) rfl⟩)⟩, fun _ => ⟨TX11, 17, rfl⟩⟩
theorem vcl_13_85 (NF : State → Prop) : pCL NF 13 (85, 1, 269, 3) := fun hN _ q hq => by
  have hq2 : gMT 269 = some q := hq
  cases (show gMT 269 = some (gm_269, 4) from rfl).symm.trans hq2
  exact ⟨yX12_shut, cX12_shut, (some .int), vm_269, ⟨by decide +kernel, Or.inr (Or.inl ⟨rfl, tbT 1787 (by decide +kernel) rfl, tbT 1788 (by decide +kernel) rfl, tbT 1789 (by decide +kernel) rfl⟩)⟩, fun _ => ⟨TX12, 55, rfl⟩⟩
theorem vcl_13_86 (NF : State → Prop) : pCL NF 13 (86, 1, 118, 2) := fun hN _ q hq => by
  have hq2 : gMT 118 = some q := hq
  cases (show gMT 118 = some (gm_118, 2) from rfl).symm.trans hq2
  exact ⟨yX11_burn, cX11_burn, (some .int), vm_118, ⟨by decide +kernel, Or.inr (Or.inl ⟨rfl, tbT 851 (by decide +kernel) rfl, tbT 852 (by decide +kernel) rfl, tbT 853 (by decide +kernel) rfl⟩)⟩, fun _ => ⟨TX11, 17, rfl⟩⟩
theorem vcl_13_89 (NF : State → Prop) : pCL NF 13 (89, 1, 187, 2) := fun hN _ q hq => by
  have hq2 : gMT 187 = some q := hq
  cases (show gMT 187 = some (gm_187, 2) from rfl).symm.trans hq2
  exact ⟨yX12_burn, cX12_burn, (some .int), vm_187, ⟨by decide +kernel, Or.inr (Or.inl ⟨rfl, tbT 1795 (by decide +kernel) rfl, tbT 1796 (by decide +kernel) rfl, tbT 1797 (by decide +kernel) rfl⟩)⟩, fun _ => ⟨TX12, 55, rfl⟩⟩
theorem vcl_13_90 (NF : State → Prop) : pCL NF 13 (90, 1, 147, 2) := fun hN _ q hq => by
  have hq2 : gMT 147 = some q := hq
  cases (show gMT 147 = some (gm_147, 3) from rfl).symm.trans hq2
  exact ⟨yX11_minutes, cX11_minutes, (some .int), vm_147, ⟨by decide +kernel, Or.inr (Or.inl ⟨rfl, tbT 860 (by decide +kernel) rfl, tbT 861 (by decide +kernel) rfl, tbT 862 (by decide +kernel) rfl⟩)⟩, fun _ => ⟨TX11, 17, rfl⟩⟩
theorem vcl_13_93 (NF : State → Prop) : pCL NF 13 (93, 1, 241, 2) := fun hN _ q hq => by
  have hq2 : gMT 241 = some q := hq
  cases (show gMT 241 = some (gm_241, 3) from rfl).symm.trans hq2
  exact ⟨yX12_minutes, cX12_minutes, (some .int), vm_241, ⟨by decide +kernel, Or.inr (Or.inl ⟨rfl, tbT 1803 (by decide +kernel) rfl, tbT 1804 (by decide +kernel) rfl, tbT 1805 (by decide +kernel) rfl⟩)⟩, fun _ => ⟨TX12, 55, rfl⟩⟩
theorem vcl_13_94 (NF : State → Prop) : pCL NF 13 (94, 1, 167, 1) := fun hN _ q hq => by
  have hq2 : gMT 167 = some q := hq
  cases (show gMT 167 = some (gm_167, 1) from rfl).symm.trans hq2
  exact ⟨yX11_undo, cX11_undo, (some .int), vm_167, ⟨by decide +kernel, Or.inr (Or.inl ⟨rfl, tbT 869 (by decide +kernel) rfl, tbT 870 (by decide +kernel) rfl, tbT 871 (by decide +kernel) rfl⟩)⟩, fun _ => ⟨TX11, 17, rfl⟩⟩
theorem vcl_13_97 (NF : State → Prop) : pCL NF 13 (97, 1, 282, 1) := fun hN _ q hq => by
  have hq2 : gMT 282 = some q := hq
  cases (show gMT 282 = some (gm_282, 2) from rfl).symm.trans hq2
  exact ⟨yX12_undo, cX12_undo, (some .int), vm_282, ⟨by decide +kernel, Or.inr (Or.inl ⟨rfl, tbT 1819 (by decide +kernel) rfl, tbT 1820 (by decide +kernel) rfl, tbT 1821 (by decide +kernel) rfl⟩)⟩, fun _ => ⟨TX12, 55, rfl⟩⟩
theorem vcl_13_98 (NF : State → Prop) : pCL NF 13 (98, 1, 170, 3) := fun hN _ q hq => by
  have hq2 : gMT 170 = some q := hq
  cases (show gMT 170 = some (gm_170, 4) from rfl).symm.trans hq2
  exact ⟨yX11_way, cX11_way, (some .int), vm_170, ⟨by decide +kernel, Or.inr (Or.inl ⟨rfl, tbT 905 (by decide +kernel) rfl, tbT 906 (by decide +kernel) rfl, tbT 907 (by decide +kernel) rfl⟩)⟩, fun _ => ⟨TX11, 17, rfl⟩⟩
theorem vcl_13_101 (NF : State → Prop) : pCL NF 13 (101, 1, 286, 3) := fun hN _ q hq => by
  have hq2 : gMT 286 = some q := hq
  cases (show gMT 286 = some (gm_286, 5) from rfl).symm.trans hq2
  exact ⟨yX12_way, cX12_way, (some .int), vm_286, ⟨by decide +kernel, Or.inr (Or.inl ⟨rfl, tbT 1823 (by decide +kernel) rfl, tbT 1824 (by decide +kernel) rfl, tbT 1825 (by decide +kernel) rfl⟩)⟩, fun _ => ⟨TX12, 55, rfl⟩⟩
theorem vcl_13_102 (NF : State → Prop) : pCL NF 13 (102, 1, 164, 2) := fun hN _ q hq => by
  have hq2 : gMT 164 = some q := hq
  cases (show gMT 164 = some (gm_164, 2) from rfl).symm.trans hq2
  exact ⟨yX11_step, cX11_step, (some .int), vm_164, ⟨by decide +kernel, Or.inr (Or.inl ⟨rfl, tbT 941 (by decide +kernel) rfl, tbT 942 (by decide +kernel) rfl, tbT 943 (by decide +kernel) rfl⟩)⟩, fun _ => ⟨TX11, 17, rfl⟩⟩
theorem vcl_13_105 (NF : State → Prop) : pCL NF 13 (105, 1, 274, 2) := fun hN _ q hq => by
  have hq2 : gMT 274 = some q := hq
  cases (show gMT 274 = some (gm_274, 2) from rfl).symm.trans hq2
  exact ⟨yX12_step, cX12_step, (some .int), vm_274, ⟨by decide +kernel, Or.inr (Or.inl ⟨rfl, tbT 1839 (by decide +kernel) rfl, tbT 1840 (by decide +kernel) rfl, tbT 1841 (by decide +kernel) rfl⟩)⟩, fun _ => ⟨TX12, 55, rfl⟩⟩
theorem vcl_13_106 (NF : State → Prop) : pCL NF 13 (106, 1, 114, 2) := fun hN _ q hq => by
  have hq2 : gMT 114 = some q := hq
  cases (show gMT 114 = some (gm_114, 2) from rfl).symm.trans hq2
  exact ⟨yX11_barred, cX11_barred, (some .int), vm_114, ⟨by decide +kernel, Or.inr (Or.inl ⟨rfl, tbT 945 (by decide +kernel) rfl, tbT 946 (by decide +kernel) rfl, tbT 947 (by decide +kernel) rfl⟩)⟩, fun _ => ⟨TX11, 17, rfl⟩⟩
theorem vcl_13_109 (NF : State → Prop) : pCL NF 13 (109, 1, 179, 2) := fun hN _ q hq => by
  have hq2 : gMT 179 = some q := hq
  cases (show gMT 179 = some (gm_179, 4) from rfl).symm.trans hq2
  exact ⟨yX12_barred, cX12_barred, (some .int), vm_179, ⟨by decide +kernel, Or.inr (Or.inl ⟨rfl, tbT 1843 (by decide +kernel) rfl, tbT 1844 (by decide +kernel) rfl, tbT 1845 (by decide +kernel) rfl⟩)⟩, fun _ => ⟨TX12, 55, rfl⟩⟩
theorem vcl_13_110 (NF : State → Prop) : pCL NF 13 (110, 1, 113, 3) := fun hN _ q hq => by
  have hq2 : gMT 113 = some q := hq
  cases (show gMT 113 = some (gm_113, 3) from rfl).symm.trans hq2
  exact ⟨yX11_asks, cX11_asks, (some .int), vm_113, ⟨by decide +kernel, Or.inr (Or.inl ⟨rfl, tbT 953 (by decide +kernel) rfl, tbT 954 (by decide +kernel) rfl, tbT 955 (by decide +kernel) rfl⟩)⟩, fun _ => ⟨TX11, 17, rfl⟩⟩
theorem vcl_13_113 (NF : State → Prop) : pCL NF 13 (113, 1, 176, 3) := fun hN _ q hq => by
  have hq2 : gMT 176 = some q := hq
  cases (show gMT 176 = some (gm_176, 7) from rfl).symm.trans hq2
  exact ⟨yX12_asks, cX12_asks, (some .int), vm_176, ⟨by decide +kernel, Or.inr (Or.inl ⟨rfl, tbT 1847 (by decide +kernel) rfl, tbT 1848 (by decide +kernel) rfl, tbT 1849 (by decide +kernel) rfl⟩)⟩, fun _ => ⟨TX12, 55, rfl⟩⟩
theorem vcl_13_114 (NF : State → Prop) : pCL NF 13 (114, 1, 112, 1) := fun hN _ q hq => by
  have hq2 : gMT 112 = some q := hq
  cases (show gMT 112 = some (gm_112, 1) from rfl).symm.trans hq2
  exact ⟨yX11_asked, cX11_asked, (some .int), vm_112, ⟨by decide +kernel, Or.inr (Or.inl ⟨rfl, tbT 963 (by decide +kernel) rfl, tbT 964 (by decide +kernel) rfl, tbT 965 (by decide +kernel) rfl⟩)⟩, fun _ => ⟨TX11, 17, rfl⟩⟩
theorem vcl_13_117 (NF : State → Prop) : pCL NF 13 (117, 1, 175, 1) := fun hN _ q hq => by
  have hq2 : gMT 175 = some q := hq
  cases (show gMT 175 = some (gm_175, 1) from rfl).symm.trans hq2
  exact ⟨yX12_asked, cX12_asked, (some .int), vm_175, ⟨by decide +kernel, Or.inr (Or.inl ⟨rfl, tbT 1862 (by decide +kernel) rfl, tbT 1863 (by decide +kernel) rfl, tbT 1864 (by decide +kernel) rfl⟩)⟩, fun _ => ⟨TX12, 55, rfl⟩⟩
theorem vcl_13_118 (NF : State → Prop) : pCL NF 13 (118, 1, 166, 3) := fun hN _ q hq => by
  have hq2 : gMT 166 = some q := hq
  cases (show gMT 166 = some (gm_166, 4) from rfl).symm.trans hq2
  exact ⟨yX11_through, cX11_through, (some .int), vm_166, ⟨by decide +kernel, Or.inr (Or.inl ⟨rfl, tbT 967 (by decide +kernel) rfl, tbT 968 (by decide +kernel) rfl, tbT 969 (by decide +kernel) rfl⟩)⟩, fun _ => ⟨TX11, 17, rfl⟩⟩
theorem vcl_13_121 (NF : State → Prop) : pCL NF 13 (121, 1, 279, 3) := fun hN _ q hq => by
  have hq2 : gMT 279 = some q := hq
  cases (show gMT 279 = some (gm_279, 7) from rfl).symm.trans hq2
  exact ⟨yX12_through, cX12_through, (some .int), vm_279, ⟨by decide +kernel, Or.inr (Or.inl ⟨rfl, tbT 1866 (by decide +kernel) rfl, tbT 1867 (by decide +kernel) rfl, tbT 1868 (by decide +kernel) rfl⟩)⟩, fun _ => ⟨TX12, 55, rfl⟩⟩
theorem vcl_13_122 (NF : State → Prop) : pCL NF 13 (122, 1, 129, 2) := fun hN _ q hq => by
  have hq2 : gMT 129 = some q := hq
  cases (show gMT 129 = some (gm_129, 2) from rfl).symm.trans hq2
  exact ⟨yX11_fire, cX11_fire, (some .int), vm_129, ⟨by decide +kernel, Or.inr (Or.inl ⟨rfl, tbT 995 (by decide +kernel) rfl, tbT 996 (by decide +kernel) rfl, tbT 997 (by decide +kernel) rfl⟩)⟩, fun _ => ⟨TX11, 17, rfl⟩⟩
theorem vcl_13_125 (NF : State → Prop) : pCL NF 13 (125, 1, 208, 2) := fun hN _ q hq => by
  have hq2 : gMT 208 = some q := hq
  cases (show gMT 208 = some (gm_208, 3) from rfl).symm.trans hq2
  exact ⟨yX12_fire, cX12_fire, (some .int), vm_208, ⟨by decide +kernel, Or.inr (Or.inl ⟨rfl, tbT 1870 (by decide +kernel) rfl, tbT 1871 (by decide +kernel) rfl, tbT 1872 (by decide +kernel) rfl⟩)⟩, fun _ => ⟨TX12, 55, rfl⟩⟩
theorem vcl_13_126 (NF : State → Prop) : pCL NF 13 (126, 1, 163, 2) := fun hN _ q hq => by
  have hq2 : gMT 163 = some q := hq
  cases (show gMT 163 = some (gm_163, 2) from rfl).symm.trans hq2
  exact ⟨yX11_spread, cX11_spread, (some .int), vm_163, ⟨by decide +kernel, Or.inr (Or.inl ⟨rfl, tbT 1005 (by decide +kernel) rfl, tbT 1006 (by decide +kernel) rfl, tbT 1007 (by decide +kernel) rfl⟩)⟩, fun _ => ⟨TX11, 17, rfl⟩⟩
theorem vcl_13_129 (NF : State → Prop) : pCL NF 13 (129, 1, 272, 2) := fun hN _ q hq => by
  have hq2 : gMT 272 = some q := hq
  cases (show gMT 272 = some (gm_272, 2) from rfl).symm.trans hq2
  exact ⟨yX12_spread, cX12_spread, (some .int), vm_272, ⟨by decide +kernel, Or.inr (Or.inl ⟨rfl, tbT 1878 (by decide +kernel) rfl, tbT 1879 (by decide +kernel) rfl, tbT 1880 (by decide +kernel) rfl⟩)⟩, fun _ => ⟨TX12, 55, rfl⟩⟩
theorem vcl_13_130 (NF : State → Prop) : pCL NF 13 (130, 1, 122, 2) := fun hN _ q hq => by
  have hq2 : gMT 122 = some q := hq
  cases (show gMT 122 = some (gm_122, 2) from rfl).symm.trans hq2
  exact ⟨yX11_cut, cX11_cut, (some .int), vm_122, ⟨by decide +kernel, Or.inr (Or.inl ⟨rfl, tbT 1013 (by decide +kernel) rfl, tbT 1014 (by decide +kernel) rfl, tbT 1015 (by decide +kernel) rfl⟩)⟩, fun _ => ⟨TX11, 17, rfl⟩⟩
theorem vcl_13_133 (NF : State → Prop) : pCL NF 13 (133, 1, 196, 2) := fun hN _ q hq => by
  have hq2 : gMT 196 = some q := hq
  cases (show gMT 196 = some (gm_196, 4) from rfl).symm.trans hq2
  exact ⟨yX12_cut, cX12_cut, (some .int), vm_196, ⟨by decide +kernel, Or.inr (Or.inl ⟨rfl, tbT 1882 (by decide +kernel) rfl, tbT 1883 (by decide +kernel) rfl, tbT 1884 (by decide +kernel) rfl⟩)⟩, fun _ => ⟨TX12, 55, rfl⟩⟩
theorem vcl_13_134 (NF : State → Prop) : pCL NF 13 (134, 1, 126, 2) := fun hN _ q hq => by
  have hq2 : gMT 126 = some q := hq
  cases (show gMT 126 = some (gm_126, 2) from rfl).symm.trans hq2
  exact ⟨yX11_exchange, cX11_exchange, (some .int), vm_126, ⟨by decide +kernel, Or.inr (Or.inl ⟨rfl, tbT 1031 (by decide +kernel) rfl, tbT 1032 (by decide +kernel) rfl, tbT 1033 (by decide +kernel) rfl⟩)⟩, fun _ => ⟨TX11, 17, rfl⟩⟩
theorem vcl_13_137 (NF : State → Prop) : pCL NF 13 (137, 1, 203, 2) := fun hN _ q hq => by
  have hq2 : gMT 203 = some q := hq
  cases (show gMT 203 = some (gm_203, 2) from rfl).symm.trans hq2
  exact ⟨yX12_exchange, cX12_exchange, (some .int), vm_203, ⟨by decide +kernel, Or.inr (Or.inl ⟨rfl, tbT 1890 (by decide +kernel) rfl, tbT 1891 (by decide +kernel) rfl, tbT 1892 (by decide +kernel) rfl⟩)⟩, fun _ => ⟨TX12, 55, rfl⟩⟩
theorem vcl_13_138 (NF : State → Prop) : pCL NF 13 (138, 1, 156, 1) := fun hN _ q hq => by
  have hq2 : gMT 156 = some q := hq
  cases (show gMT 156 = some (gm_156, 1) from rfl).symm.trans hq2
  exact ⟨yX11_rings, cX11_rings, (some .int), vm_156, ⟨by decide +kernel, Or.inr (Or.inl ⟨rfl, tbT 1063 (by decide +kernel) rfl, tbT 1064 (by decide +kernel) rfl, tbT 1065 (by decide +kernel) rfl⟩)⟩, fun _ => ⟨TX11, 17, rfl⟩⟩
theorem vcl_13_141 (NF : State → Prop) : pCL NF 13 (141, 1, 262, 1) := fun hN _ q hq => by
  have hq2 : gMT 262 = some q := hq
  cases (show gMT 262 = some (gm_262, 1) from rfl).symm.trans hq2
  exact ⟨yX12_rings, cX12_rings, (some .int), vm_262, ⟨by decide +kernel, Or.inr (Or.inl ⟨rfl, tbT 1906 (by decide +kernel) rfl, tbT 1907 (by decide +kernel) rfl, tbT 1908 (by decide +kernel) rfl⟩)⟩, fun _ => ⟨TX12, 55, rfl⟩⟩
theorem vcl_13_142 (NF : State → Prop) : pCL NF 13 (142, 1, 154, 1) := fun hN _ q hq => by
  have hq2 : gMT 154 = some q := hq
  cases (show gMT 154 = some (gm_154, 1) from rfl).symm.trans hq2
  exact ⟨yX11_prices, cX11_prices, (some .int), vm_154, ⟨by decide +kernel, Or.inr (Or.inl ⟨rfl, tbT 1067 (by decide +kernel) rfl, tbT 1068 (by decide +kernel) rfl, tbT 1069 (by decide +kernel) rfl⟩)⟩, fun _ => ⟨TX11, 17, rfl⟩⟩
theorem vcl_13_145 (NF : State → Prop) : pCL NF 13 (145, 1, 256, 1) := fun hN _ q hq => by
  have hq2 : gMT 256 = some q := hq
  cases (show gMT 256 = some (gm_256, 4) from rfl).symm.trans hq2
  exact ⟨yX12_prices, cX12_prices, (some .int), vm_256, ⟨by decide +kernel, Or.inr (Or.inl ⟨rfl, tbT 1910 (by decide +kernel) rfl, tbT 1911 (by decide +kernel) rfl, tbT 1912 (by decide +kernel) rfl⟩)⟩, fun _ => ⟨TX12, 55, rfl⟩⟩
theorem vcl_13_146 (NF : State → Prop) : pCL NF 13 (146, 1, 153, 2) := fun hN _ q hq => by
  have hq2 : gMT 153 = some q := hq
  cases (show gMT 153 = some (gm_153, 2) from rfl).symm.trans hq2
  exact ⟨yX11_price, cX11_price, (some .int), vm_153, ⟨by decide +kernel, Or.inr (Or.inl ⟨rfl, tbT 1087 (by decide +kernel) rfl, tbT 1088 (by decide +kernel) rfl, tbT 1089 (by decide +kernel) rfl⟩)⟩, fun _ => ⟨TX11, 17, rfl⟩⟩
theorem vcl_13_149 (NF : State → Prop) : pCL NF 13 (149, 1, 255, 2) := fun hN _ q hq => by
  have hq2 : gMT 255 = some q := hq
  cases (show gMT 255 = some (gm_255, 2) from rfl).symm.trans hq2
  exact ⟨yX12_price, cX12_price, (some .int), vm_255, ⟨by decide +kernel, Or.inr (Or.inl ⟨rfl, tbT 1918 (by decide +kernel) rfl, tbT 1919 (by decide +kernel) rfl, tbT 1920 (by decide +kernel) rfl⟩)⟩, fun _ => ⟨TX12, 55, rfl⟩⟩
theorem vcl_13_150 (NF : State → Prop) : pCL NF 13 (150, 1, 169, 2) := fun hN _ q hq => by
  have hq2 : gMT 169 = some q := hq
  cases (show gMT 169 = some (gm_169, 2) from rfl).symm.trans hq2
  exact ⟨yX11_wants, cX11_wants, (some .int), vm_169, ⟨by decide +kernel, Or.inr (Or.inl ⟨rfl, tbT 1091 (by decide +kernel) rfl, tbT 1092 (by decide +kernel) rfl, tbT 1093 (by decide +kernel) rfl⟩)⟩, fun _ => ⟨TX11, 17, rfl⟩⟩
theorem vcl_13_153 (NF : State → Prop) : pCL NF 13 (153, 1, 285, 2) := fun hN _ q hq => by
  have hq2 : gMT 285 = some q := hq
  cases (show gMT 285 = some (gm_285, 2) from rfl).symm.trans hq2
  exact ⟨yX12_wants, cX12_wants, (some .int), vm_285, ⟨by decide +kernel, Or.inr (Or.inl ⟨rfl, tbT 1922 (by decide +kernel) rfl, tbT 1923 (by decide +kernel) rfl, tbT 1924 (by decide +kernel) rfl⟩)⟩, fun _ => ⟨TX12, 55, rfl⟩⟩
theorem vcl_13_154 (NF : State → Prop) : pCL NF 13 (154, 1, 168, 1) := fun hN _ q hq => by
  have hq2 : gMT 168 = some q := hq
  cases (show gMT 168 = some (gm_168, 2) from rfl).symm.trans hq2
  exact ⟨yX11_walked, cX11_walked, (some .int), vm_168, ⟨by decide +kernel, Or.inr (Or.inl ⟨rfl, tbT 975 (by decide +kernel) rfl, tbT 976 (by decide +kernel) rfl, tbT 977 (by decide +kernel) rfl⟩)⟩, fun _ => ⟨TX11, 17, rfl⟩⟩
theorem vcl_13_157 (NF : State → Prop) : pCL NF 13 (157, 1, 283, 1) := fun hN _ q hq => by
  have hq2 : gMT 283 = some q := hq
  cases (show gMT 283 = some (gm_283, 5) from rfl).symm.trans hq2
  exact ⟨yX12_walked, cX12_walked, (some .int), vm_283, ⟨by decide +kernel, Or.inr (Or.inl ⟨rfl, tbT 1926 (by decide +kernel) rfl, tbT 1927 (by decide +kernel) rfl, tbT 1928 (by decide +kernel) rfl⟩)⟩, fun _ => ⟨TX12, 55, rfl⟩⟩
theorem vcl_13_158 (NF : State → Prop) : pCL NF 13 (158, 1, 120, 2) := fun hN _ q hq => by
  have hq2 : gMT 120 = some q := hq
  cases (show gMT 120 = some (gm_120, 4) from rfl).symm.trans hq2
  exact ⟨yX11_corridor, cX11_corridor, (some .int), vm_120, ⟨by decide +kernel, Or.inr (Or.inl ⟨rfl, tbT 1095 (by decide +kernel) rfl, tbT 1096 (by decide +kernel) rfl, tbT 1097 (by decide +kernel) rfl⟩)⟩, fun _ => ⟨TX11, 17, rfl⟩⟩
theorem vcl_13_161 (NF : State → Prop) : pCL NF 13 (161, 1, 194, 2) := fun hN _ q hq => by
  have hq2 : gMT 194 = some q := hq
  cases (show gMT 194 = some (gm_194, 4) from rfl).symm.trans hq2
  exact ⟨yX12_corridor, cX12_corridor, (some .int), vm_194, ⟨by decide +kernel, Or.inr (Or.inl ⟨rfl, tbT 1934 (by decide +kernel) rfl, tbT 1935 (by decide +kernel) rfl, tbT 1936 (by decide +kernel) rfl⟩)⟩, fun _ => ⟨TX12, 55, rfl⟩⟩
theorem vcl_13_162 (NF : State → Prop) : pCL NF 13 (162, 1, 133, 2) := fun hN _ q hq => by
  have hq2 : gMT 133 = some q := hq
  cases (show gMT 133 = some (gm_133, 2) from rfl).symm.trans hq2
  exact ⟨yX11_heir, cX11_heir, (some .int), vm_133, ⟨by decide +kernel, Or.inr (Or.inl ⟨rfl, tbT 1103 (by decide +kernel) rfl, tbT 1104 (by decide +kernel) rfl, tbT 1105 (by decide +kernel) rfl⟩)⟩, fun _ => ⟨TX11, 17, rfl⟩⟩
theorem vcl_13_165 (NF : State → Prop) : pCL NF 13 (165, 1, 215, 2) := fun hN _ q hq => by
  have hq2 : gMT 215 = some q := hq
  cases (show gMT 215 = some (gm_215, 2) from rfl).symm.trans hq2
  exact ⟨yX12_heir, cX12_heir, (some .int), vm_215, ⟨by decide +kernel, Or.inr (Or.inl ⟨rfl, tbT 1938 (by decide +kernel) rfl, tbT 1939 (by decide +kernel) rfl, tbT 1940 (by decide +kernel) rfl⟩)⟩, fun _ => ⟨TX12, 55, rfl⟩⟩
theorem vcl_13_166 (NF : State → Prop) : pCL NF 13 (166, 1, 131, 2) := fun hN _ q hq => by
  have hq2 : gMT 131 = some q := hq
  cases (show gMT 131 = some (gm_131, 5) from rfl).symm.trans hq2
  exact ⟨yX11_guests, cX11_guests, (some .int), vm_131, ⟨by decide +kernel, Or.inr (Or.inl ⟨rfl, tbT 1108 (by decide +kernel) rfl, tbT 1109 (by decide +kernel) rfl, tbT 1110 (by decide +kernel) rfl⟩)⟩, fun _ => ⟨TX11, 17, rfl⟩⟩
theorem vcl_13_169 (NF : State → Prop) : pCL NF 13 (169, 1, 213, 2) := fun hN _ q hq => by
  have hq2 : gMT 213 = some q := hq
  cases (show gMT 213 = some (gm_213, 7) from rfl).symm.trans hq2
  exact ⟨yX12_guests, cX12_guests, (some .int), vm_213, ⟨by decide +kernel, Or.inr (Or.inl ⟨rfl, tbT 1942 (by decide +kernel) rfl, tbT 1943 (by decide +kernel) rfl, tbT 1944 (by decide +kernel) rfl⟩)⟩, fun _ => ⟨TX12, 55, rfl⟩⟩
theorem vcl_13_170 (NF : State → Prop) : pCL NF 13 (170, 1, 148, 1) := fun hN _ q hq => by
  have hq2 : gMT 148 = some q := hq
  cases (show gMT 148 = some (gm_148, 3) from rfl).symm.trans hq2
  exact ⟨yX11_mixed, cX11_mixed, (some .int), vm_148, ⟨by decide +kernel, Or.inr (Or.inl ⟨rfl, tbT 1120 (by decide +kernel) rfl, tbT 1121 (by decide +kernel) rfl, tbT 1122 (by decide +kernel) rfl⟩)⟩, fun _ => ⟨TX11, 17, rfl⟩⟩
theorem vcl_13_173 (NF : State → Prop) : pCL NF 13 (173, 1, 242, 1) := fun hN _ q hq => by
  have hq2 : gMT 242 = some q := hq
  cases (show gMT 242 = some (gm_242, 6) from rfl).symm.trans hq2
  exact ⟨yX12_mixed, cX12_mixed, (some .int), vm_242, ⟨by decide +kernel, Or.inr (Or.inl ⟨rfl, tbT 1950 (by decide +kernel) rfl, tbT 1951 (by decide +kernel) rfl, tbT 1952 (by decide +kernel) rfl⟩)⟩, fun _ => ⟨TX12, 55, rfl⟩⟩
theorem vcl_13_174 (NF : State → Prop) : pCL NF 13 (174, 1, 124, 3) := fun hN _ q hq => by
  have hq2 : gMT 124 = some q := hq
  cases (show gMT 124 = some (gm_124, 4) from rfl).symm.trans hq2
  exact ⟨yX11_drawn, cX11_drawn, (some .int), vm_124, ⟨by decide +kernel, Or.inr (Or.inl ⟨rfl, tbT 877 (by decide +kernel) rfl, tbT 878 (by decide +kernel) rfl, tbT 879 (by decide +kernel) rfl⟩)⟩, fun _ => ⟨TX11, 17, rfl⟩⟩
theorem vcl_13_177 (NF : State → Prop) : pCL NF 13 (177, 1, 200, 3) := fun hN _ q hq => by
  have hq2 : gMT 200 = some q := hq
  cases (show gMT 200 = some (gm_200, 3) from rfl).symm.trans hq2
  exact ⟨yX12_drawn, cX12_drawn, (some .int), vm_200, ⟨by decide +kernel, Or.inr (Or.inl ⟨rfl, tbT 1954 (by decide +kernel) rfl, tbT 1955 (by decide +kernel) rfl, tbT 1956 (by decide +kernel) rfl⟩)⟩, fun _ => ⟨TX12, 55, rfl⟩⟩
theorem vcl_13_178 (NF : State → Prop) : pCL NF 13 (178, 1, 150, 4) := fun hN _ q hq => by
  have hq2 : gMT 150 = some q := hq
  cases (show gMT 150 = some (gm_150, 7) from rfl).symm.trans hq2
  exact ⟨yX11_odds, cX11_odds, (some .int), vm_150, ⟨by decide +kernel, Or.inr (Or.inl ⟨rfl, tbT 901 (by decide +kernel) rfl, tbT 902 (by decide +kernel) rfl, tbT 903 (by decide +kernel) rfl⟩)⟩, fun _ => ⟨TX11, 17, rfl⟩⟩
theorem vcl_13_181 (NF : State → Prop) : pCL NF 13 (181, 1, 246, 4) := fun hN _ q hq => by
  have hq2 : gMT 246 = some q := hq
  cases (show gMT 246 = some (gm_246, 6) from rfl).symm.trans hq2
  exact ⟨yX12_odds, cX12_odds, (some .int), vm_246, ⟨by decide +kernel, Or.inr (Or.inl ⟨rfl, tbT 1971 (by decide +kernel) rfl, tbT 1972 (by decide +kernel) rfl, tbT 1973 (by decide +kernel) rfl⟩)⟩, fun _ => ⟨TX12, 55, rfl⟩⟩
theorem vcl_13_182 (NF : State → Prop) : pCL NF 13 (182, 1, 116, 2) := fun hN _ q hq => by
  have hq2 : gMT 116 = some q := hq
  cases (show gMT 116 = some (gm_116, 3) from rfl).symm.trans hq2
  exact ⟨yX11_book, cX11_book, (some .int), vm_116, ⟨by decide +kernel, Or.inr (Or.inl ⟨rfl, tbT 1132 (by decide +kernel) rfl, tbT 1133 (by decide +kernel) rfl, tbT 1134 (by decide +kernel) rfl⟩)⟩, fun _ => ⟨TX11, 17, rfl⟩⟩
theorem vcl_13_185 (NF : State → Prop) : pCL NF 13 (185, 1, 184, 2) := fun hN _ q hq => by
  have hq2 : gMT 184 = some q := hq
  cases (show gMT 184 = some (gm_184, 7) from rfl).symm.trans hq2
  exact ⟨yX12_book, cX12_book, (some .int), vm_184, ⟨by decide +kernel, Or.inr (Or.inl ⟨rfl, tbT 1975 (by decide +kernel) rfl, tbT 1976 (by decide +kernel) rfl, tbT 1977 (by decide +kernel) rfl⟩)⟩, fun _ => ⟨TX12, 55, rfl⟩⟩
theorem vcl_13_186 (NF : State → Prop) : pCL NF 13 (186, 1, 117, 2) := fun hN _ q hq => by
  have hq2 : gMT 117 = some q := hq
  cases (show gMT 117 = some (gm_117, 2) from rfl).symm.trans hq2
  exact ⟨yX11_booked, cX11_booked, (some .int), vm_117, ⟨by decide +kernel, Or.inr (Or.inl ⟨rfl, tbT 1189 (by decide +kernel) rfl, tbT 1190 (by decide +kernel) rfl, tbT 1191 (by decide +kernel) rfl⟩)⟩, fun _ => ⟨TX11, 17, rfl⟩⟩
theorem vcl_13_189 (NF : State → Prop) : pCL NF 13 (189, 1, 186, 2) := fun hN _ q hq => by
  have hq2 : gMT 186 = some q := hq
  cases (show gMT 186 = some (gm_186, 2) from rfl).symm.trans hq2
  exact ⟨yX12_booked, cX12_booked, (some .int), vm_186, ⟨by decide +kernel, Or.inr (Or.inl ⟨rfl, tbT 1995 (by decide +kernel) rfl, tbT 1996 (by decide +kernel) rfl, tbT 1997 (by decide +kernel) rfl⟩)⟩, fun _ => ⟨TX12, 55, rfl⟩⟩
theorem vcl_13_190 (NF : State → Prop) : pCL NF 13 (190, 1, 161, 1) := fun hN _ q hq => by
  have hq2 : gMT 161 = some q := hq
  cases (show gMT 161 = some (gm_161, 2) from rfl).symm.trans hq2
  exact ⟨yX11_sentence, cX11_sentence, (some .int), vm_161, ⟨by decide +kernel, Or.inr (Or.inl ⟨rfl, tbT 1193 (by decide +kernel) rfl, tbT 1194 (by decide +kernel) rfl, tbT 1195 (by decide +kernel) rfl⟩)⟩, fun _ => ⟨TX11, 17, rfl⟩⟩
theorem vcl_13_193 (NF : State → Prop) : pCL NF 13 (193, 1, 268, 1) := fun hN _ q hq => by
  have hq2 : gMT 268 = some q := hq
  cases (show gMT 268 = some (gm_268, 3) from rfl).symm.trans hq2
  exact ⟨yX12_sentence, cX12_sentence, (some .int), vm_268, ⟨by decide +kernel, Or.inr (Or.inl ⟨rfl, tbT 1999 (by decide +kernel) rfl, tbT 2000 (by decide +kernel) rfl, tbT 2001 (by decide +kernel) rfl⟩)⟩, fun _ => ⟨TX12, 55, rfl⟩⟩
theorem vcl_13_194 (NF : State → Prop) : pCL NF 13 (194, 1, 159, 2) := fun hN _ q hq => by
  have hq2 : gMT 159 = some q := hq
  cases (show gMT 159 = some (gm_159, 5) from rfl).symm.trans hq2
  exact ⟨yX11_said, cX11_said, (some .int), vm_159, ⟨by decide +kernel, Or.inr (Or.inl ⟨rfl, tbT 1235 (by decide +kernel) rfl, tbT 1236 (by decide +kernel) rfl, tbT 1237 (by decide +kernel) rfl⟩)⟩, fun _ => ⟨TX11, 17, rfl⟩⟩
theorem vcl_13_197 (NF : State → Prop) : pCL NF 13 (197, 1, 265, 2) := fun hN _ q hq => by
  have hq2 : gMT 265 = some q := hq
  cases (show gMT 265 = some (gm_265, 4) from rfl).symm.trans hq2
  exact ⟨yX12_said, cX12_said, (some .int), vm_265, ⟨by decide +kernel, Or.inr (Or.inl ⟨rfl, tbT 2027 (by decide +kernel) rfl, tbT 2028 (by decide +kernel) rfl, tbT 2029 (by decide +kernel) rfl⟩)⟩, fun _ => ⟨TX12, 55, rfl⟩⟩
theorem vcl_13_198 (NF : State → Prop) : pCL NF 13 (198, 1, 135, 2) := fun hN _ q hq => by
  have hq2 : gMT 135 = some q := hq
  cases (show gMT 135 = some (gm_135, 2) from rfl).symm.trans hq2
  exact ⟨yX11_image, cX11_image, (some .boolean), vm_135, ⟨by decide +kernel, Or.inr (Or.inl ⟨rfl, tbT 1277 (by decide +kernel) rfl, tbT 1278 (by decide +kernel) rfl, tbT 1279 (by decide +kernel) rfl⟩)⟩, fun _ => ⟨TX11, 17, rfl⟩⟩
theorem vcl_13_201 (NF : State → Prop) : pCL NF 13 (201, 1, 217, 2) := fun hN _ q hq => by
  have hq2 : gMT 217 = some q := hq
  cases (show gMT 217 = some (gm_217, 3) from rfl).symm.trans hq2
  exact ⟨yX12_image, cX12_image, (some .boolean), vm_217, ⟨by decide +kernel, Or.inr (Or.inl ⟨rfl, tbT 2043 (by decide +kernel) rfl, tbT 2044 (by decide +kernel) rfl, tbT 2045 (by decide +kernel) rfl⟩)⟩, fun _ => ⟨TX12, 55, rfl⟩⟩
theorem vcl_13_202 (NF : State → Prop) : pCL NF 13 (202, 1, 155, 2) := fun hN _ q hq => by
  have hq2 : gMT 155 = some q := hq
  cases (show gMT 155 = some (gm_155, 2) from rfl).symm.trans hq2
  exact ⟨yX11_restore, cX11_restore, (some .boolean), vm_155, ⟨by decide +kernel, Or.inr (Or.inl ⟨rfl, tbT 1281 (by decide +kernel) rfl, tbT 1282 (by decide +kernel) rfl, tbT 1283 (by decide +kernel) rfl⟩)⟩, fun _ => ⟨TX11, 17, rfl⟩⟩
theorem vcl_13_205 (NF : State → Prop) : pCL NF 13 (205, 1, 261, 2) := fun hN _ q hq => by
  have hq2 : gMT 261 = some q := hq
  cases (show gMT 261 = some (gm_261, 3) from rfl).symm.trans hq2
  exact ⟨yX12_restore, cX12_restore, (some .boolean), vm_261, ⟨by decide +kernel, Or.inr (Or.inl ⟨rfl, tbT 2047 (by decide +kernel) rfl, tbT 2048 (by decide +kernel) rfl, tbT 2049 (by decide +kernel) rfl⟩)⟩, fun _ => ⟨TX12, 55, rfl⟩⟩
theorem vcl_13_206 (NF : State → Prop) : pCL NF 13 (206, 1, 121, 2) := fun hN _ q hq => by
  have hq2 : gMT 121 = some q := hq
  cases (show gMT 121 = some (gm_121, 2) from rfl).symm.trans hq2
  exact ⟨yX11_count, cX11_count, (some .int), vm_121, ⟨by decide +kernel, Or.inr (Or.inl ⟨rfl, tbT 747 (by decide +kernel) rfl, tbT 748 (by decide +kernel) rfl, tbT 749 (by decide +kernel) rfl⟩)⟩, fun _ => ⟨TX11, 17, rfl⟩⟩
theorem vcl_13_209 (NF : State → Prop) : pCL NF 13 (209, 1, 195, 2) := fun hN _ q hq => by
  have hq2 : gMT 195 = some q := hq
  cases (show gMT 195 = some (gm_195, 2) from rfl).symm.trans hq2
  exact ⟨yX12_count, cX12_count, (some .int), vm_195, ⟨by decide +kernel, Or.inr (Or.inl ⟨rfl, tbT 2051 (by decide +kernel) rfl, tbT 2052 (by decide +kernel) rfl, tbT 2053 (by decide +kernel) rfl⟩)⟩, fun _ => ⟨TX12, 55, rfl⟩⟩
theorem vcl_13 (NF : State → Prop) : ∀ x ∈ gcl__13, pCL NF 13 x := List.forall_mem_cons.mpr ⟨(vcl_13_7 NF), List.forall_mem_cons.mpr ⟨(vcl_13_19 NF), List.forall_mem_cons.mpr ⟨(vcl_13_23 NF), List.forall_mem_cons.mpr ⟨(vcl_13_24 NF), List.forall_mem_cons.mpr ⟨(vcl_13_28 NF), List.forall_mem_cons.mpr ⟨(vcl_13_29 NF), List.forall_mem_cons.mpr ⟨(vcl_13_33 NF), List.forall_mem_cons.mpr ⟨(vcl_13_34 NF), List.forall_mem_cons.mpr ⟨(vcl_13_37 NF), List.forall_mem_cons.mpr ⟨(vcl_13_38 NF), List.forall_mem_cons.mpr ⟨(vcl_13_43 NF), List.forall_mem_cons.mpr ⟨(vcl_13_44 NF), List.forall_mem_cons.mpr ⟨(vcl_13_47 NF), List.forall_mem_cons.mpr ⟨(vcl_13_48 NF), List.forall_mem_cons.mpr ⟨(vcl_13_51 NF), List.forall_mem_cons.mpr ⟨(vcl_13_52 NF), List.forall_mem_cons.mpr ⟨(vcl_13_56 NF), List.forall_mem_cons.mpr ⟨(vcl_13_57 NF), List.forall_mem_cons.mpr ⟨(vcl_13_60 NF), List.forall_mem_cons.mpr ⟨(vcl_13_61 NF), List.forall_mem_cons.mpr ⟨(vcl_13_64 NF), List.forall_mem_cons.mpr ⟨(vcl_13_65 NF), List.forall_mem_cons.mpr ⟨(vcl_13_69 NF), List.forall_mem_cons.mpr ⟨(vcl_13_70 NF), List.forall_mem_cons.mpr ⟨(vcl_13_73 NF), List.forall_mem_cons.mpr ⟨(vcl_13_74 NF), List.forall_mem_cons.mpr ⟨(vcl_13_77 NF), List.forall_mem_cons.mpr ⟨(vcl_13_78 NF), List.forall_mem_cons.mpr ⟨(vcl_13_81 NF), List.forall_mem_cons.mpr ⟨(vcl_13_82 NF), List.forall_mem_cons.mpr ⟨(vcl_13_85 NF), List.forall_mem_cons.mpr ⟨(vcl_13_86 NF), List.forall_mem_cons.mpr ⟨(vcl_13_89 NF), List.forall_mem_cons.mpr ⟨(vcl_13_90 NF), List.forall_mem_cons.mpr ⟨(vcl_13_93 NF), List.forall_mem_cons.mpr ⟨(vcl_13_94 NF), List.forall_mem_cons.mpr ⟨(vcl_13_97 NF), List.forall_mem_cons.mpr ⟨(vcl_13_98 NF), List.forall_mem_cons.mpr ⟨(vcl_13_101 NF), List.forall_mem_cons.mpr ⟨(vcl_13_102 NF), List.forall_mem_cons.mpr ⟨(vcl_13_105 NF), List.forall_mem_cons.mpr ⟨(vcl_13_106 NF), List.forall_mem_cons.mpr ⟨(vcl_13_109 NF), List.forall_mem_cons.mpr ⟨(vcl_13_110 NF), List.forall_mem_cons.mpr ⟨(vcl_13_113 NF), List.forall_mem_cons.mpr ⟨(vcl_13_114 NF), List.forall_mem_cons.mpr ⟨(vcl_13_117 NF), List.forall_mem_cons.mpr ⟨(vcl_13_118 NF), List.forall_mem_cons.mpr ⟨(vcl_13_121 NF), List.forall_mem_cons.mpr ⟨(vcl_13_122 NF), List.forall_mem_cons.mpr ⟨(vcl_13_125 NF), List.forall_mem_cons.mpr ⟨(vcl_13_126 NF), List.forall_mem_cons.mpr ⟨(vcl_13_129 NF), List.forall_mem_cons.mpr ⟨(vcl_13_130 NF), List.forall_mem_cons.mpr ⟨(vcl_13_133 NF), List.forall_mem_cons.mpr ⟨(vcl_13_134 NF), List.forall_mem_cons.mpr ⟨(vcl_13_137 NF), List.forall_mem_cons.mpr ⟨(vcl_13_138 NF), List.forall_mem_cons.mpr ⟨(vcl_13_141 NF), List.forall_mem_cons.mpr ⟨(vcl_13_142 NF), List.forall_mem_cons.mpr ⟨(vcl_13_145 NF), List.forall_mem_cons.mpr ⟨(vcl_13_146 NF), List.forall_mem_cons.mpr ⟨(vcl_13_149 NF), List.forall_mem_cons.mpr ⟨(vcl_13_150 NF), List.forall_mem_cons.mpr ⟨(vcl_13_153 NF), List.forall_mem_cons.mpr ⟨(vcl_13_154 NF), List.forall_mem_cons.mpr ⟨(vcl_13_157 NF), List.forall_mem_cons.mpr ⟨(vcl_13_158 NF), List.forall_mem_cons.mpr ⟨(vcl_13_161 NF), List.forall_mem_cons.mpr ⟨(vcl_13_162 NF), List.forall_mem_cons.mpr ⟨(vcl_13_165 NF), List.forall_mem_cons.mpr ⟨(vcl_13_166 NF), List.forall_mem_cons.mpr ⟨(vcl_13_169 NF), List.forall_mem_cons.mpr ⟨(vcl_13_170 NF), List.forall_mem_cons.mpr ⟨(vcl_13_173 NF), List.forall_mem_cons.mpr ⟨(vcl_13_174 NF), List.forall_mem_cons.mpr ⟨(vcl_13_177 NF), List.forall_mem_cons.mpr ⟨(vcl_13_178 NF), List.forall_mem_cons.mpr ⟨(vcl_13_181 NF), List.forall_mem_cons.mpr ⟨(vcl_13_182 NF), List.forall_mem_cons.mpr ⟨(vcl_13_185 NF), List.forall_mem_cons.mpr ⟨(vcl_13_186 NF), List.forall_mem_cons.mpr ⟨(vcl_13_189 NF), List.forall_mem_cons.mpr ⟨(vcl_13_190 NF), List.forall_mem_cons.mpr ⟨(vcl_13_193 NF), List.forall_mem_cons.mpr ⟨(vcl_13_194 NF), List.forall_mem_cons.mpr ⟨(vcl_13_197 NF), List.forall_mem_cons.mpr ⟨(vcl_13_198 NF), List.forall_mem_cons.mpr ⟨(vcl_13_201 NF), List.forall_mem_cons.mpr ⟨(vcl_13_202 NF), List.forall_mem_cons.mpr ⟨(vcl_13_205 NF), List.forall_mem_cons.mpr ⟨(vcl_13_206 NF), List.forall_mem_cons.mpr ⟨(vcl_13_209 NF), fun _ h => absurd h List.not_mem_nil⟩⟩⟩⟩⟩⟩⟩⟩⟩⟩⟩⟩⟩⟩⟩⟩⟩⟩⟩⟩⟩⟩⟩⟩⟩⟩⟩⟩⟩⟩⟩⟩⟩⟩⟩⟩⟩⟩⟩⟩⟩⟩⟩⟩⟩⟩⟩⟩⟩⟩⟩⟩⟩⟩⟩⟩⟩⟩⟩⟩⟩⟩⟩⟩⟩⟩⟩⟩⟩⟩⟩⟩⟩⟩⟩⟩⟩⟩⟩⟩⟩⟩⟩⟩⟩⟩⟩⟩⟩⟩⟩⟩⟩
theorem vcl_14 (NF : State → Prop) : ∀ x ∈ gcl__14, pCL NF 14 x := fun _ h => absurd h List.not_mem_nil
theorem vcl_15 (NF : State → Prop) : ∀ x ∈ gcl__15, pCL NF 15 x := fun _ h => absurd h List.not_mem_nil
theorem vcl_16 (NF : State → Prop) : ∀ x ∈ gcl__16, pCL NF 16 x := fun _ h => absurd h List.not_mem_nil
theorem vcl (NF : State → Prop) : eAll (pCL NF) 0 gcl_ := ⟨(vcl_0 NF), (vcl_1 NF), (vcl_2 NF), (vcl_3 NF), (vcl_4 NF), (vcl_5 NF), (vcl_6 NF), (vcl_7 NF), (vcl_8 NF), (vcl_9 NF), (vcl_10 NF), (vcl_11 NF), (vcl_12 NF), (vcl_13 NF), (vcl_14 NF), (vcl_15 NF), (vcl_16 NF), trivial⟩
theorem v_CL {NF : State → Prop} (hN : ∀ s, NF s → ∀ w ∈ nestG, va_Nw w s) : gCok vwCl Tb1 NF eCN gCL gMT := fun o idx kd mno n h => ga2_all (P := pCL NF) (vcl NF) h hN
def pOb (o : Nat) (x : Nat × Nat × Nat × Nat) : Prop := x.2.1 = 7 → Cond.methodLink (eCN o) x.1 arraycopyName ∈ Tb1
theorem vob_0_28 : pOb 0 (28, 1, 62, 2) := fun h => absurd h (by decide)
theorem vob_0_37 : pOb 0 (37, 1, 5, 3) := fun h => absurd h (by decide)
theorem vob_0_41 : pOb 0 (41, 1, 75, 3) := fun h => absurd h (by decide)
theorem vob_0_45 : pOb 0 (45, 1, 69, 1) := fun h => absurd h (by decide)
theorem vob_0_49 : pOb 0 (49, 0, 2, 1) := fun h => absurd h (by decide)
theorem vob_0_53 : pOb 0 (53, 1, 65, 2) := fun h => absurd h (by decide)
theorem vob_0_56 : pOb 0 (56, 1, 60, 1) := fun h => absurd h (by decide)
theorem vob_0_59 : pOb 0 (59, 1, 4, 3) := fun h => absurd h (by decide)
theorem vob_0_62 : pOb 0 (62, 1, 3, 3) := fun h => absurd h (by decide)
theorem vob_0_65 : pOb 0 (65, 1, 74, 2) := fun h => absurd h (by decide)
theorem vob_0_68 : pOb 0 (68, 1, 8, 3) := fun h => absurd h (by decide)
theorem vob_0_72 : pOb 0 (72, 1, 71, 3) := fun h => absurd h (by decide)
theorem vob_0_76 : pOb 0 (76, 1, 7, 3) := fun h => absurd h (by decide)
theorem vob_0_90 : pOb 0 (90, 1, 0, 4) := fun h => absurd h (by decide)
theorem vob_0_107 : pOb 0 (107, 1, 14, 4) := fun h => absurd h (by decide)
theorem vob_0_111 : pOb 0 (111, 1, 20, 4) := fun h => absurd h (by decide)
theorem vob_0_115 : pOb 0 (115, 0, 9, 2) := fun h => absurd h (by decide)
theorem vob_0_118 : pOb 0 (118, 1, 22, 4) := fun h => absurd h (by decide)
theorem vob_0_121 : pOb 0 (121, 1, 25, 3) := fun h => absurd h (by decide)
theorem vob_0_124 : pOb 0 (124, 1, 12, 2) := fun h => absurd h (by decide)
theorem vob_0_133 : pOb 0 (133, 1, 23, 4) := fun h => absurd h (by decide)
theorem vob_0_136 : pOb 0 (136, 1, 21, 2) := fun h => absurd h (by decide)
theorem vob_0_139 : pOb 0 (139, 1, 17, 3) := fun h => absurd h (by decide)
theorem vob_0 : ∀ x ∈ gcl__0, pOb 0 x := List.forall_mem_cons.mpr ⟨vob_0_28, List.forall_mem_cons.mpr ⟨vob_0_37, List.forall_mem_cons.mpr ⟨vob_0_41, List.forall_mem_cons.mpr ⟨vob_0_45, List.forall_mem_cons.mpr ⟨vob_0_49, List.forall_mem_cons.mpr ⟨vob_0_53, List.forall_mem_cons.mpr ⟨vob_0_56, List.forall_mem_cons.mpr ⟨vob_0_59, List.forall_mem_cons.mpr ⟨vob_0_62, List.forall_mem_cons.mpr ⟨vob_0_65, List.forall_mem_cons.mpr ⟨vob_0_68, List.forall_mem_cons.mpr ⟨vob_0_72, List.forall_mem_cons.mpr ⟨vob_0_76, List.forall_mem_cons.mpr ⟨vob_0_90, List.forall_mem_cons.mpr ⟨vob_0_107, List.forall_mem_cons.mpr ⟨vob_0_111, List.forall_mem_cons.mpr ⟨vob_0_115, List.forall_mem_cons.mpr ⟨vob_0_118, List.forall_mem_cons.mpr ⟨vob_0_121, List.forall_mem_cons.mpr ⟨vob_0_124, List.forall_mem_cons.mpr ⟨vob_0_133, List.forall_mem_cons.mpr ⟨vob_0_136, List.forall_mem_cons.mpr ⟨vob_0_139, fun _ h => absurd h List.not_mem_nil⟩⟩⟩⟩⟩⟩⟩⟩⟩⟩⟩⟩⟩⟩⟩⟩⟩⟩⟩⟩⟩⟩⟩
theorem vob_1_27 : pOb 1 (27, 0, 304, 2) := fun h => absurd h (by decide)
theorem vob_1_49 : pOb 1 (49, 7, 0, 5) := fun _ => tbT 693 (by decide +kernel) rfl
theorem vob_1_55 : pOb 1 (55, 3, 132, 2) := fun h => absurd h (by decide)
theorem vob_1_59 : pOb 1 (59, 3, 115, 1) := fun h => absurd h (by decide)
theorem vob_1_63 : pOb 1 (63, 3, 136, 2) := fun h => absurd h (by decide)
theorem vob_1_66 : pOb 1 (66, 1, 16, 2) := fun h => absurd h (by decide)
theorem vob_1_70 : pOb 1 (70, 1, 78, 3) := fun h => absurd h (by decide)
theorem vob_1_76 : pOb 1 (76, 1, 15, 3) := fun h => absurd h (by decide)
theorem vob_1_79 : pOb 1 (79, 1, 24, 2) := fun h => absurd h (by decide)
theorem vob_1_85 : pOb 1 (85, 1, 12, 2) := fun h => absurd h (by decide)
theorem vob_1_88 : pOb 1 (88, 1, 21, 2) := fun h => absurd h (by decide)
theorem vob_1 : ∀ x ∈ gcl__1, pOb 1 x := List.forall_mem_cons.mpr ⟨vob_1_27, List.forall_mem_cons.mpr ⟨vob_1_49, List.forall_mem_cons.mpr ⟨vob_1_55, List.forall_mem_cons.mpr ⟨vob_1_59, List.forall_mem_cons.mpr ⟨vob_1_63, List.forall_mem_cons.mpr ⟨vob_1_66, List.forall_mem_cons.mpr ⟨vob_1_70, List.forall_mem_cons.mpr ⟨vob_1_76, List.forall_mem_cons.mpr ⟨vob_1_79, List.forall_mem_cons.mpr ⟨vob_1_85, List.forall_mem_cons.mpr ⟨vob_1_88, fun _ h => absurd h List.not_mem_nil⟩⟩⟩⟩⟩⟩⟩⟩⟩⟩⟩
theorem vob_2_16 : pOb 2 (16, 1, 87, 2) := fun h => absurd h (by decide)
theorem vob_2_22 : pOb 2 (22, 1, 16, 2) := fun h => absurd h (by decide)
theorem vob_2_28 : pOb 2 (28, 1, 26, 4) := fun h => absurd h (by decide)
theorem vob_2_32 : pOb 2 (32, 1, 27, 2) := fun h => absurd h (by decide)
theorem vob_2_35 : pOb 2 (35, 1, 21, 2) := fun h => absurd h (by decide)
theorem vob_2_38 : pOb 2 (38, 1, 17, 3) := fun h => absurd h (by decide)
theorem vob_2_42 : pOb 2 (42, 1, 14, 4) := fun h => absurd h (by decide)
theorem vob_2_46 : pOb 2 (46, 1, 22, 4) := fun h => absurd h (by decide)
theorem vob_2_50 : pOb 2 (50, 1, 20, 4) := fun h => absurd h (by decide)
theorem vob_2 : ∀ x ∈ gcl__2, pOb 2 x := List.forall_mem_cons.mpr ⟨vob_2_16, List.forall_mem_cons.mpr ⟨vob_2_22, List.forall_mem_cons.mpr ⟨vob_2_28, List.forall_mem_cons.mpr ⟨vob_2_32, List.forall_mem_cons.mpr ⟨vob_2_35, List.forall_mem_cons.mpr ⟨vob_2_38, List.forall_mem_cons.mpr ⟨vob_2_42, List.forall_mem_cons.mpr ⟨vob_2_46, List.forall_mem_cons.mpr ⟨vob_2_50, fun _ h => absurd h List.not_mem_nil⟩⟩⟩⟩⟩⟩⟩⟩⟩
theorem vob_3_27 : pOb 3 (27, 1, 78, 3) := fun h => absurd h (by decide)
theorem vob_3_33 : pOb 3 (33, 3, 132, 2) := fun h => absurd h (by decide)
theorem vob_3_37 : pOb 3 (37, 0, 304, 2) := fun h => absurd h (by decide)
theorem vob_3_43 : pOb 3 (43, 1, 31, 4) := fun h => absurd h (by decide)
theorem vob_3_47 : pOb 3 (47, 1, 33, 4) := fun h => absurd h (by decide)
theorem vob_3_63 : pOb 3 (63, 3, 115, 1) := fun h => absurd h (by decide)
theorem vob_3 : ∀ x ∈ gcl__3, pOb 3 x := List.forall_mem_cons.mpr ⟨vob_3_27, List.forall_mem_cons.mpr ⟨vob_3_33, List.forall_mem_cons.mpr ⟨vob_3_37, List.forall_mem_cons.mpr ⟨vob_3_43, List.forall_mem_cons.mpr ⟨vob_3_47, List.forall_mem_cons.mpr ⟨vob_3_63, fun _ h => absurd h List.not_mem_nil⟩⟩⟩⟩⟩⟩
theorem vob_4_34 : pOb 4 (34, 0, 304, 2) := fun h => absurd h (by decide)
theorem vob_4_40 : pOb 4 (40, 1, 38, 3) := fun h => absurd h (by decide)
theorem vob_4_44 : pOb 4 (44, 3, 136, 2) := fun h => absurd h (by decide)
theorem vob_4_48 : pOb 4 (48, 1, 39, 4) := fun h => absurd h (by decide)
theorem vob_4_52 : pOb 4 (52, 1, 36, 1) := fun h => absurd h (by decide)
theorem vob_4_55 : pOb 4 (55, 1, 87, 2) := fun h => absurd h (by decide)
theorem vob_4_66 : pOb 4 (66, 1, 16, 2) := fun h => absurd h (by decide)
theorem vob_4_73 : pOb 4 (73, 3, 132, 2) := fun h => absurd h (by decide)
theorem vob_4_76 : pOb 4 (76, 1, 86, 3) := fun h => absurd h (by decide)
theorem vob_4_80 : pOb 4 (80, 1, 41, 2) := fun h => absurd h (by decide)
theorem vob_4_83 : pOb 4 (83, 0, 299, 1) := fun h => absurd h (by decide)
theorem vob_4_88 : pOb 4 (88, 3, 115, 1) := fun h => absurd h (by decide)
theorem vob_4_95 : pOb 4 (95, 1, 35, 3) := fun h => absurd h (by decide)
theorem vob_4_98 : pOb 4 (98, 1, 40, 1) := fun h => absurd h (by decide)
theorem vob_4_102 : pOb 4 (102, 1, 34, 4) := fun h => absurd h (by decide)
theorem vob_4 : ∀ x ∈ gcl__4, pOb 4 x := List.forall_mem_cons.mpr ⟨vob_4_34, List.forall_mem_cons.mpr ⟨vob_4_40, List.forall_mem_cons.mpr ⟨vob_4_44, List.forall_mem_cons.mpr ⟨vob_4_48, List.forall_mem_cons.mpr ⟨vob_4_52, List.forall_mem_cons.mpr ⟨vob_4_55, List.forall_mem_cons.mpr ⟨vob_4_66, List.forall_mem_cons.mpr ⟨vob_4_73, List.forall_mem_cons.mpr ⟨vob_4_76, List.forall_mem_cons.mpr ⟨vob_4_80, List.forall_mem_cons.mpr ⟨vob_4_83, List.forall_mem_cons.mpr ⟨vob_4_88, List.forall_mem_cons.mpr ⟨vob_4_95, List.forall_mem_cons.mpr ⟨vob_4_98, List.forall_mem_cons.mpr ⟨vob_4_102, fun _ h => absurd h List.not_mem_nil⟩⟩⟩⟩⟩⟩⟩⟩⟩⟩⟩⟩⟩⟩⟩
theorem vob_5_25 : pOb 5 (25, 0, 301, 2) := fun h => absurd h (by decide)
theorem vob_5_31 : pOb 5 (31, 1, 45, 1) := fun h => absurd h (by decide)
theorem vob_5_35 : pOb 5 (35, 1, 11, 2) := fun h => absurd h (by decide)
theorem vob_5 : ∀ x ∈ gcl__5, pOb 5 x := List.forall_mem_cons.mpr ⟨vob_5_25, List.forall_mem_cons.mpr ⟨vob_5_31, List.forall_mem_cons.mpr ⟨vob_5_35, fun _ h => absurd h List.not_mem_nil⟩⟩⟩
theorem vob_6_28 : pOb 6 (28, 7, 0, 5) := fun _ => tbT 1234 (by decide +kernel) rfl
theorem vob_6_34 : pOb 6 (34, 1, 50, 1) := fun h => absurd h (by decide)
theorem vob_6_37 : pOb 6 (37, 1, 62, 2) := fun h => absurd h (by decide)
theorem vob_6_43 : pOb 6 (43, 1, 52, 4) := fun h => absurd h (by decide)
theorem vob_6_50 : pOb 6 (50, 1, 65, 2) := fun h => absurd h (by decide)
theorem vob_6_54 : pOb 6 (54, 1, 55, 4) := fun h => absurd h (by decide)
theorem vob_6_57 : pOb 6 (57, 1, 69, 1) := fun h => absurd h (by decide)
theorem vob_6_61 : pOb 6 (61, 1, 48, 3) := fun h => absurd h (by decide)
theorem vob_6_65 : pOb 6 (65, 1, 60, 1) := fun h => absurd h (by decide)
theorem vob_6_68 : pOb 6 (68, 1, 68, 2) := fun h => absurd h (by decide)
theorem vob_6_71 : pOb 6 (71, 1, 74, 2) := fun h => absurd h (by decide)
theorem vob_6_74 : pOb 6 (74, 1, 75, 3) := fun h => absurd h (by decide)
theorem vob_6_78 : pOb 6 (78, 1, 54, 4) := fun h => absurd h (by decide)
theorem vob_6_82 : pOb 6 (82, 1, 53, 3) := fun h => absurd h (by decide)
theorem vob_6_89 : pOb 6 (89, 1, 71, 3) := fun h => absurd h (by decide)
theorem vob_6_93 : pOb 6 (93, 0, 58, 4) := fun h => absurd h (by decide)
theorem vob_6_97 : pOb 6 (97, 1, 76, 1) := fun h => absurd h (by decide)
theorem vob_6_107 : pOb 6 (107, 1, 19, 2) := fun h => absurd h (by decide)
theorem vob_6_111 : pOb 6 (111, 1, 90, 2) := fun h => absurd h (by decide)
theorem vob_6_114 : pOb 6 (114, 0, 57, 4) := fun h => absurd h (by decide)
theorem vob_6_117 : pOb 6 (117, 1, 87, 2) := fun h => absurd h (by decide)
theorem vob_6_120 : pOb 6 (120, 0, 51, 4) := fun h => absurd h (by decide)
theorem vob_6_123 : pOb 6 (123, 0, 300, 2) := fun h => absurd h (by decide)
theorem vob_6_128 : pOb 6 (128, 3, 115, 1) := fun h => absurd h (by decide)
theorem vob_6_131 : pOb 6 (131, 1, 18, 2) := fun h => absurd h (by decide)
theorem vob_6_134 : pOb 6 (134, 0, 299, 1) := fun h => absurd h (by decide)
theorem vob_6_137 : pOb 6 (137, 1, 89, 2) := fun h => absurd h (by decide)
theorem vob_6_140 : pOb 6 (140, 1, 92, 2) := fun h => absurd h (by decide)
theorem vob_6 : ∀ x ∈ gcl__6, pOb 6 x := List.forall_mem_cons.mpr ⟨vob_6_28, List.forall_mem_cons.mpr ⟨vob_6_34, List.forall_mem_cons.mpr ⟨vob_6_37, List.forall_mem_cons.mpr ⟨vob_6_43, List.forall_mem_cons.mpr ⟨vob_6_50, List.forall_mem_cons.mpr ⟨vob_6_54, List.forall_mem_cons.mpr ⟨vob_6_57, List.forall_mem_cons.mpr ⟨vob_6_61, List.forall_mem_cons.mpr ⟨vob_6_65, List.forall_mem_cons.mpr ⟨vob_6_68, List.forall_mem_cons.mpr ⟨vob_6_71, List.forall_mem_cons.mpr ⟨vob_6_74, List.forall_mem_cons.mpr ⟨vob_6_78, List.forall_mem_cons.mpr ⟨vob_6_82, List.forall_mem_cons.mpr ⟨vob_6_89, List.forall_mem_cons.mpr ⟨vob_6_93, List.forall_mem_cons.mpr ⟨vob_6_97, List.forall_mem_cons.mpr ⟨vob_6_107, List.forall_mem_cons.mpr ⟨vob_6_111, List.forall_mem_cons.mpr ⟨vob_6_114, List.forall_mem_cons.mpr ⟨vob_6_117, List.forall_mem_cons.mpr ⟨vob_6_120, List.forall_mem_cons.mpr ⟨vob_6_123, List.forall_mem_cons.mpr ⟨vob_6_128, List.forall_mem_cons.mpr ⟨vob_6_131, List.forall_mem_cons.mpr ⟨vob_6_134, List.forall_mem_cons.mpr ⟨vob_6_137, List.forall_mem_cons.mpr ⟨vob_6_140, fun _ h => absurd h List.not_mem_nil⟩⟩⟩⟩⟩⟩⟩⟩⟩⟩⟩⟩⟩⟩⟩⟩⟩⟩⟩⟩⟩⟩⟩⟩⟩⟩⟩⟩
