theorem gd_88 : ∀ t ∈ ga_88, decode cX8_namesOf t.1 = .ok (t.2.1, t.2.2) := by decide +kernel
theorem ge_88 : ga_88.all (fun t => (est t.1 t.2.1 2 && elen t.2.1 t.2.2) && estL t.2.1 2) = true := by decide +kernel
theorem gd_89 : ∀ t ∈ ga_89, decode cX8_passagesOf t.1 = .ok (t.2.1, t.2.2) := by decide +kernel
theorem ge_89 : ga_89.all (fun t => (est t.1 t.2.1 5 && elen t.2.1 t.2.2) && estL t.2.1 5) = true := by decide +kernel
theorem gd_90 : ∀ t ∈ ga_90, decode cX8_roomsIn t.1 = .ok (t.2.1, t.2.2) := by decide +kernel
theorem ge_90 : ga_90.all (fun t => (est t.1 t.2.1 4 && elen t.2.1 t.2.2) && estL t.2.1 4) = true := by decide +kernel
theorem gd_91 : ∀ t ∈ ga_91, decode cX8_tell t.1 = .ok (t.2.1, t.2.2) := by decide +kernel
theorem ge_91 : ga_91.all (fun t => (est t.1 t.2.1 4 && elen t.2.1 t.2.2) && estL t.2.1 4) = true := by decide +kernel
theorem gd_92 : ∀ t ∈ ga_92, decode cX8_worthOf t.1 = .ok (t.2.1, t.2.2) := by decide +kernel
theorem ge_92 : ga_92.all (fun t => (est t.1 t.2.1 4 && elen t.2.1 t.2.2) && estL t.2.1 4) = true := by decide +kernel
theorem gd_93 : ∀ t ∈ ga_93, decode cX9_readFact t.1 = .ok (t.2.1, t.2.2) := by decide +kernel
theorem ge_93 : ga_93.all (fun t => (est t.1 t.2.1 2 && elen t.2.1 t.2.2) && estL t.2.1 2) = true := by decide +kernel
theorem gd_94 : ∀ t ∈ ga_94, decode cX9_readHeir t.1 = .ok (t.2.1, t.2.2) := by decide +kernel
theorem ge_94 : ga_94.all (fun t => (est t.1 t.2.1 4 && elen t.2.1 t.2.2) && estL t.2.1 4) = true := by decide +kernel
theorem gd_95 : ∀ t ∈ ga_95, decode cX9_readHouseAndOwner t.1 = .ok (t.2.1, t.2.2) := by decide +kernel
theorem ge_95 : ga_95.all (fun t => (est t.1 t.2.1 5 && elen t.2.1 t.2.2) && estL t.2.1 5) = true := by decide +kernel
theorem gd_96 : ∀ t ∈ ga_96, decode cX9_readLeave t.1 = .ok (t.2.1, t.2.2) := by decide +kernel
theorem ge_96 : ga_96.all (fun t => (est t.1 t.2.1 4 && elen t.2.1 t.2.2) && estL t.2.1 4) = true := by decide +kernel
theorem gd_97 : ∀ t ∈ ga_97, decode cX9_readLiking t.1 = .ok (t.2.1, t.2.2) := by decide +kernel
theorem ge_97 : ga_97.all (fun t => (est t.1 t.2.1 5 && elen t.2.1 t.2.2) && estL t.2.1 5) = true := by decide +kernel
theorem gd_98 : ∀ t ∈ ga_98, decode cX9_readNewName t.1 = .ok (t.2.1, t.2.2) := by decide +kernel
theorem ge_98 : ga_98.all (fun t => (est t.1 t.2.1 3 && elen t.2.1 t.2.2) && estL t.2.1 3) = true := by decide +kernel
theorem gd_99 : ∀ t ∈ ga_99, decode cX9_readPassage t.1 = .ok (t.2.1, t.2.2) := by decide +kernel
theorem ge_99 : ga_99.all (fun t => (est t.1 t.2.1 5 && elen t.2.1 t.2.2) && estL t.2.1 5) = true := by decide +kernel
theorem gd_100 : ∀ t ∈ ga_100, decode cX9_readPlace t.1 = .ok (t.2.1, t.2.2) := by decide +kernel
theorem ge_100 : ga_100.all (fun t => (est t.1 t.2.1 4 && elen t.2.1 t.2.2) && estL t.2.1 4) = true := by decide +kernel
theorem gd_101 : ∀ t ∈ ga_101, decode cX9_readText t.1 = .ok (t.2.1, t.2.2) := by decide +kernel
theorem ge_101 : ga_101.all (fun t => (est t.1 t.2.1 3 && elen t.2.1 t.2.2) && estL t.2.1 3) = true := by decide +kernel
theorem gd_102 : ∀ t ∈ ga_102, decode cX10_enterable t.1 = .ok (t.2.1, t.2.2) := by decide +kernel
theorem ge_102 : ga_102.all (fun t => (est t.1 t.2.1 9 && elen t.2.1 t.2.2) && estL t.2.1 9) = true := by decide +kernel
theorem gd_103 : ∀ t ∈ ga_103, decode cX10_fewestAsked t.1 = .ok (t.2.1, t.2.2) := by decide +kernel
theorem ge_103 : ga_103.all (fun t => (est t.1 t.2.1 11 && elen t.2.1 t.2.2) && estL t.2.1 11) = true := by decide +kernel
theorem gd_104 : ∀ t ∈ ga_104, decode cX10_find t.1 = .ok (t.2.1, t.2.2) := by decide +kernel
theorem ge_104 : ga_104.all (fun t => (est t.1 t.2.1 8 && elen t.2.1 t.2.2) && estL t.2.1 8) = true := by decide +kernel
theorem gd_105 : ∀ t ∈ ga_105, decode cX10_layersTill t.1 = .ok (t.2.1, t.2.2) := by decide +kernel
theorem ge_105 : ga_105.all (fun t => (est t.1 t.2.1 8 && elen t.2.1 t.2.2) && estL t.2.1 8) = true := by decide +kernel
theorem gd_106 : ∀ t ∈ ga_106, decode cX10_leastOf t.1 = .ok (t.2.1, t.2.2) := by decide +kernel
theorem ge_106 : ga_106.all (fun t => (est t.1 t.2.1 2 && elen t.2.1 t.2.2) && estL t.2.1 2) = true := by decide +kernel
theorem gd_107 : ∀ t ∈ ga_107, decode cX10_leastPath t.1 = .ok (t.2.1, t.2.2) := by decide +kernel
theorem ge_107 : ga_107.all (fun t => (est t.1 t.2.1 5 && elen t.2.1 t.2.2) && estL t.2.1 5) = true := by decide +kernel
theorem gd_108 : ∀ t ∈ ga_108, decode cX10_ownersMet t.1 = .ok (t.2.1, t.2.2) := by decide +kernel
theorem ge_108 : ga_108.all (fun t => (est t.1 t.2.1 7 && elen t.2.1 t.2.2) && estL t.2.1 7) = true := by decide +kernel
theorem gd_109 : ∀ t ∈ ga_109, decode cX10_reach t.1 = .ok (t.2.1, t.2.2) := by decide +kernel
theorem ge_109 : ga_109.all (fun t => (est t.1 t.2.1 10 && elen t.2.1 t.2.2) && estL t.2.1 10) = true := by decide +kernel
theorem gd_110 : ∀ t ∈ ga_110, decode cX10_tellSteps t.1 = .ok (t.2.1, t.2.2) := by decide +kernel
theorem ge_110 : ga_110.all (fun t => (est t.1 t.2.1 2 && elen t.2.1 t.2.2) && estL t.2.1 2) = true := by decide +kernel
theorem gd_111 : ∀ t ∈ ga_111, decode cX11_areTwoOwners t.1 = .ok (t.2.1, t.2.2) := by decide +kernel
theorem ge_111 : ga_111.all (fun t => (est t.1 t.2.1 3 && elen t.2.1 t.2.2) && estL t.2.1 3) = true := by decide +kernel
theorem gd_112 : ∀ t ∈ ga_112, decode cX11_asked t.1 = .ok (t.2.1, t.2.2) := by decide +kernel
theorem ge_112 : ga_112.all (fun t => (est t.1 t.2.1 1 && elen t.2.1 t.2.2) && estL t.2.1 1) = true := by decide +kernel
theorem gd_113 : ∀ t ∈ ga_113, decode cX11_asks t.1 = .ok (t.2.1, t.2.2) := by decide +kernel
theorem ge_113 : ga_113.all (fun t => (est t.1 t.2.1 3 && elen t.2.1 t.2.2) && estL t.2.1 3) = true := by decide +kernel
theorem gd_114 : ∀ t ∈ ga_114, decode cX11_barred t.1 = .ok (t.2.1, t.2.2) := by decide +kernel
theorem ge_114 : ga_114.all (fun t => (est t.1 t.2.1 2 && elen t.2.1 t.2.2) && estL t.2.1 2) = true := by decide +kernel
theorem gd_115 : ∀ t ∈ ga_115, decode cX11_bit t.1 = .ok (t.2.1, t.2.2) := by decide +kernel
theorem ge_115 : ga_115.all (fun t => (est t.1 t.2.1 1 && elen t.2.1 t.2.2) && estL t.2.1 1) = true := by decide +kernel
theorem gd_116 : ∀ t ∈ ga_116, decode cX11_book t.1 = .ok (t.2.1, t.2.2) := by decide +kernel
theorem ge_116 : ga_116.all (fun t => (est t.1 t.2.1 3 && elen t.2.1 t.2.2) && estL t.2.1 3) = true := by decide +kernel
theorem gd_117 : ∀ t ∈ ga_117, decode cX11_booked t.1 = .ok (t.2.1, t.2.2) := by decide +kernel
theorem ge_117 : ga_117.all (fun t => (est t.1 t.2.1 2 && elen t.2.1 t.2.2) && estL t.2.1 2) = true := by decide +kernel
theorem gd_118 : ∀ t ∈ ga_118, decode cX11_burn t.1 = .ok (t.2.1, t.2.2) := by decide +kernel
theorem ge_118 : ga_118.all (fun t => (est t.1 t.2.1 2 && elen t.2.1 t.2.2) && estL t.2.1 2) = true := by decide +kernel
theorem gd_119 : ∀ t ∈ ga_119, decode cX11_canHaveWalked t.1 = .ok (t.2.1, t.2.2) := by decide +kernel
theorem ge_119 : ga_119.all (fun t => (est t.1 t.2.1 6 && elen t.2.1 t.2.2) && estL t.2.1 6) = true := by decide +kernel
theorem gd_120 : ∀ t ∈ ga_120, decode cX11_corridor t.1 = .ok (t.2.1, t.2.2) := by decide +kernel
theorem ge_120 : ga_120.all (fun t => (est t.1 t.2.1 4 && elen t.2.1 t.2.2) && estL t.2.1 4) = true := by decide +kernel
theorem gd_121 : ∀ t ∈ ga_121, decode cX11_count t.1 = .ok (t.2.1, t.2.2) := by decide +kernel
theorem ge_121 : ga_121.all (fun t => (est t.1 t.2.1 2 && elen t.2.1 t.2.2) && estL t.2.1 2) = true := by decide +kernel
theorem gd_122 : ∀ t ∈ ga_122, decode cX11_cut t.1 = .ok (t.2.1, t.2.2) := by decide +kernel
theorem ge_122 : ga_122.all (fun t => (est t.1 t.2.1 2 && elen t.2.1 t.2.2) && estL t.2.1 2) = true := by decide +kernel
theorem gd_123 : ∀ t ∈ ga_123, decode cX11_die t.1 = .ok (t.2.1, t.2.2) := by decide +kernel
theorem ge_123 : ga_123.all (fun t => (est t.1 t.2.1 2 && elen t.2.1 t.2.2) && estL t.2.1 2) = true := by decide +kernel
theorem gd_124 : ∀ t ∈ ga_124, decode cX11_drawn t.1 = .ok (t.2.1, t.2.2) := by decide +kernel
theorem ge_124 : ga_124.all (fun t => (est t.1 t.2.1 4 && elen t.2.1 t.2.2) && estL t.2.1 4) = true := by decide +kernel
theorem gd_125 : ∀ t ∈ ga_125, decode cX11_end t.1 = .ok (t.2.1, t.2.2) := by decide +kernel
theorem ge_125 : ga_125.all (fun t => (est t.1 t.2.1 2 && elen t.2.1 t.2.2) && estL t.2.1 2) = true := by decide +kernel
theorem gd_126 : ∀ t ∈ ga_126, decode cX11_exchange t.1 = .ok (t.2.1, t.2.2) := by decide +kernel
theorem ge_126 : ga_126.all (fun t => (est t.1 t.2.1 2 && elen t.2.1 t.2.2) && estL t.2.1 2) = true := by decide +kernel
theorem gd_127 : ∀ t ∈ ga_127, decode cX11_fault t.1 = .ok (t.2.1, t.2.2) := by decide +kernel
theorem ge_127 : ga_127.all (fun t => (est t.1 t.2.1 1 && elen t.2.1 t.2.2) && estL t.2.1 1) = true := by decide +kernel
theorem gd_128 : ∀ t ∈ ga_128, decode cX11_feed t.1 = .ok (t.2.1, t.2.2) := by decide +kernel
theorem ge_128 : ga_128.all (fun t => (est t.1 t.2.1 6 && elen t.2.1 t.2.2) && estL t.2.1 6) = true := by decide +kernel
theorem gd_129 : ∀ t ∈ ga_129, decode cX11_fire t.1 = .ok (t.2.1, t.2.2) := by decide +kernel
theorem ge_129 : ga_129.all (fun t => (est t.1 t.2.1 2 && elen t.2.1 t.2.2) && estL t.2.1 2) = true := by decide +kernel
theorem gd_130 : ∀ t ∈ ga_130, decode cX11_go t.1 = .ok (t.2.1, t.2.2) := by decide +kernel
theorem ge_130 : ga_130.all (fun t => (est t.1 t.2.1 3 && elen t.2.1 t.2.2) && estL t.2.1 3) = true := by decide +kernel
theorem gd_131 : ∀ t ∈ ga_131, decode cX11_guests t.1 = .ok (t.2.1, t.2.2) := by decide +kernel
theorem ge_131 : ga_131.all (fun t => (est t.1 t.2.1 5 && elen t.2.1 t.2.2) && estL t.2.1 5) = true := by decide +kernel
theorem gd_132 : ∀ t ∈ ga_132, decode cX11_has t.1 = .ok (t.2.1, t.2.2) := by decide +kernel
theorem ge_132 : ga_132.all (fun t => (est t.1 t.2.1 2 && elen t.2.1 t.2.2) && estL t.2.1 2) = true := by decide +kernel
theorem gd_133 : ∀ t ∈ ga_133, decode cX11_heir t.1 = .ok (t.2.1, t.2.2) := by decide +kernel
theorem ge_133 : ga_133.all (fun t => (est t.1 t.2.1 2 && elen t.2.1 t.2.2) && estL t.2.1 2) = true := by decide +kernel
