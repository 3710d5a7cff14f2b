theorem gd_299 : ∀ t ∈ ga_299, decode cJ6_bitCount_0f7a4 t.1 = .ok (t.2.1, t.2.2) := by decide +kernel
theorem ge_299 : ga_299.all (fun t => (est t.1 t.2.1 1 && elen t.2.1 t.2.2) && estL t.2.1 1) = true := by decide +kernel
theorem gd_300 : ∀ t ∈ ga_300, decode cJ6_compare_7cf53 t.1 = .ok (t.2.1, t.2.2) := by decide +kernel
theorem ge_300 : ga_300.all (fun t => (est t.1 t.2.1 2 && elen t.2.1 t.2.2) && estL t.2.1 2) = true := by decide +kernel
theorem gd_301 : ∀ t ∈ ga_301, decode cJ9_floorMod_7cf53 t.1 = .ok (t.2.1, t.2.2) := by decide +kernel
theorem ge_301 : ga_301.all (fun t => (est t.1 t.2.1 3 && elen t.2.1 t.2.2) && estL t.2.1 3) = true := by decide +kernel
theorem gd_302 : ∀ t ∈ ga_302, decode cJ9_max_7cf53 t.1 = .ok (t.2.1, t.2.2) := by decide +kernel
theorem ge_302 : ga_302.all (fun t => (est t.1 t.2.1 2 && elen t.2.1 t.2.2) && estL t.2.1 2) = true := by decide +kernel
theorem gd_303 : ∀ t ∈ ga_303, decode cJ9_min_7cf53 t.1 = .ok (t.2.1, t.2.2) := by decide +kernel
theorem ge_303 : ga_303.all (fun t => (est t.1 t.2.1 2 && elen t.2.1 t.2.2) && estL t.2.1 2) = true := by decide +kernel
theorem gd_304 : ∀ t ∈ ga_304, decode cJ7_fill_53178 t.1 = .ok (t.2.1, t.2.2) := by decide +kernel
theorem ge_304 : ga_304.all (fun t => (est t.1 t.2.1 4 && elen t.2.1 t.2.2) && estL t.2.1 4) = true := by decide +kernel
