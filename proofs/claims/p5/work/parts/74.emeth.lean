theorem e_dk {cc : ByteArray} {nL : Nat} {l : List eI} (h1 : ∀ t ∈ l, decode cc t.1 = .ok (t.2.1, t.2.2)) (h2 : l.all (fun t => est t.1 t.2.1 nL && elen t.2.1 t.2.2) = true) : ∀ t ∈ l, eDk cc nL t := fun t ht => by
  have h := List.all_eq_true.mp h2 t ht
  rw [Bool.and_eq_true] at h
  exact ⟨h1 t ht, h.1, h.2⟩
theorem ve_0 : eMok Tb1 eCN (em_0, 1) yX0_init cX0_init none := ⟨tbT 323 (by decide +kernel) rfl, tbT 13 (by decide +kernel) rfl, plainFor_of_name (by decide +kernel), rfl, by decide +kernel, e_dk ed_0 ee_0, (fun _ => rfl), Or.inr (Or.inl ⟨rfl, rfl⟩)⟩
theorem ve_1 : eMok Tb1 eCN (em_1, 1) yX1_init cX1_init none := ⟨tbT 197 (by decide +kernel) rfl, tbT 8 (by decide +kernel) rfl, plainFor_of_name (by decide +kernel), rfl, by decide +kernel, e_dk ed_1 ee_1, (fun _ => rfl), Or.inr (Or.inl ⟨rfl, rfl⟩)⟩
theorem ve_2 : eMok Tb1 eCN (em_2, 1) yX2_init cX2_init none := ⟨tbT 442 (by decide +kernel) rfl, tbT 17 (by decide +kernel) rfl, plainFor_of_name (by decide +kernel), rfl, by decide +kernel, e_dk ed_2 ee_2, (fun _ => rfl), Or.inr (Or.inl ⟨rfl, rfl⟩)⟩
theorem ve_3 : eMok Tb1 eCN (em_3, 1) yX3_init cX3_init none := ⟨tbT 393 (by decide +kernel) rfl, tbT 15 (by decide +kernel) rfl, plainFor_of_name (by decide +kernel), rfl, by decide +kernel, e_dk ed_3 ee_3, (fun _ => rfl), Or.inr (Or.inl ⟨rfl, rfl⟩)⟩
theorem ve_4 : eMok Tb1 eCN (em_4, 1) yX4_init cX4_init none := ⟨tbT 406 (by decide +kernel) rfl, tbT 16 (by decide +kernel) rfl, plainFor_of_name (by decide +kernel), rfl, by decide +kernel, e_dk ed_4 ee_4, (fun _ => rfl), Or.inr (Or.inl ⟨rfl, rfl⟩)⟩
theorem ve_5 : eMok Tb1 eCN (em_5, 2) yX5_init cX5_init none := ⟨tbT 262 (by decide +kernel) rfl, tbT 10 (by decide +kernel) rfl, plainFor_of_name (by decide +kernel), rfl, by decide +kernel, e_dk ed_5 ee_5, (fun _ => rfl), Or.inr (Or.inl ⟨rfl, rfl⟩)⟩
theorem ve_6 : eMok Tb1 eCN (em_6, 1) yX6_init cX6_init none := ⟨tbT 281 (by decide +kernel) rfl, tbT 11 (by decide +kernel) rfl, plainFor_of_name (by decide +kernel), rfl, by decide +kernel, e_dk ed_6 ee_6, (fun _ => rfl), Or.inr (Or.inl ⟨rfl, rfl⟩)⟩
theorem ve_7 : eMok Tb1 eCN (em_7, 2) yX7_init cX7_init none := ⟨tbT 38 (by decide +kernel) rfl, tbT 2 (by decide +kernel) rfl, plainFor_of_name (by decide +kernel), rfl, by decide +kernel, e_dk ed_7 ee_7, (fun _ => rfl), Or.inr (Or.inl ⟨rfl, rfl⟩)⟩
theorem ve_8 : eMok Tb1 eCN (em_8, 1) yX8_init cX8_init none := ⟨tbT 146 (by decide +kernel) rfl, tbT 7 (by decide +kernel) rfl, plainFor_of_name (by decide +kernel), rfl, by decide +kernel, e_dk ed_8 ee_8, (fun _ => rfl), Or.inr (Or.inl ⟨rfl, rfl⟩)⟩
theorem ve_9 : eMok Tb1 eCN (em_9, 1) yX9_init cX9_init none := ⟨tbT 304 (by decide +kernel) rfl, tbT 12 (by decide +kernel) rfl, plainFor_of_name (by decide +kernel), rfl, by decide +kernel, e_dk ed_9 ee_9, (fun _ => rfl), Or.inr (Or.inl ⟨rfl, rfl⟩)⟩
theorem ve_10 : eMok Tb1 eCN (em_10, 1) yX10_init cX10_init none := ⟨tbT 365 (by decide +kernel) rfl, tbT 14 (by decide +kernel) rfl, plainFor_of_name (by decide +kernel), rfl, by decide +kernel, e_dk ed_10 ee_10, (fun _ => rfl), Or.inr (Or.inl ⟨rfl, rfl⟩)⟩
theorem ve_11 : eMok Tb1 eCN (em_11, 2) yX11_init cX11_init none := ⟨tbT 30 (by decide +kernel) rfl, tbT 1 (by decide +kernel) rfl, plainFor_of_name (by decide +kernel), rfl, by decide +kernel, e_dk ed_11 ee_11, (fun _ => rfl), Or.inr (Or.inl ⟨rfl, rfl⟩)⟩
theorem ve_12 : eMok Tb1 eCN (em_12, 1) yX12_init cX12_init none := ⟨tbT 1376 (by decide +kernel) rfl, tbT 18 (by decide +kernel) rfl, plainFor_of_name (by decide +kernel), rfl, by decide +kernel, e_dk ed_12 ee_12, (fun _ => rfl), Or.inr (Or.inl ⟨rfl, rfl⟩)⟩
theorem ve_14 : eMok Tb1 eCN (em_14, 4) yJ7_fill_53178 cJ7_fill_53178 none := ⟨tbT 201 (by decide +kernel) rfl, tbT 9 (by decide +kernel) rfl, plainFor_of_name (by decide +kernel), rfl, by decide +kernel, e_dk ed_14 ee_14, (fun h => by cases h), Or.inl ⟨rfl, rfl⟩⟩
def pCLe (base o : Nat) (x : Nat × Nat × Nat × Nat) : Prop := x.2.1 ≤ 5 → ∀ q, eMT1 x.2.2.1 = some q → ∃ (y : MethodName) (cc : ByteArray) (ret : Option FieldType), eMok Tb1 eCN q y cc ret ∧ eLk Tb1 (NF1 base) eCN o x.1 x.2.1 x.2.2.2 y ∧ ((x.2.1 = 1 ∨ x.2.1 = 4) → ∃ T N, vwCl[q.1.1]? = some (eCN q.1.1, T, N))
theorem wcl_0_3 (base : Nat) : pCLe base 0 (3, 6, 0, 1) := fun h => absurd h (by decide)
theorem wcl_0 (base : Nat) : ∀ x ∈ ecl__0, pCLe base 0 x := List.forall_mem_cons.mpr ⟨(wcl_0_3 base), fun _ h => absurd h List.not_mem_nil⟩
theorem wcl_1_3 (base : Nat) : pCLe base 1 (3, 6, 0, 1) := fun h => absurd h (by decide)
theorem wcl_1_27 (base : Nat) : pCLe base 1 (27, 0, 14, 2) := fun _ q hq => by
  have hq2 : eMT1 14 = some q := hq
  cases (show eMT1 14 = some (em_14, 4) from rfl).symm.trans hq2
  exact ⟨yJ7_fill_53178, cJ7_fill_53178, none, ve_14, ⟨by decide +kernel, Or.inl ⟨rfl, tbT 199 (by decide +kernel) rfl, tbT 200 (by decide +kernel) rfl⟩⟩, fun h => absurd h (by decide)⟩
theorem wcl_1 (base : Nat) : ∀ x ∈ ecl__1, pCLe base 1 x := List.forall_mem_cons.mpr ⟨(wcl_1_3 base), List.forall_mem_cons.mpr ⟨(wcl_1_27 base), fun _ h => absurd h List.not_mem_nil⟩⟩
theorem wcl_2_3 (base : Nat) : pCLe base 2 (3, 6, 0, 1) := fun h => absurd h (by decide)
theorem wcl_2 (base : Nat) : ∀ x ∈ ecl__2, pCLe base 2 x := List.forall_mem_cons.mpr ⟨(wcl_2_3 base), fun _ h => absurd h List.not_mem_nil⟩
theorem wcl_3_3 (base : Nat) : pCLe base 3 (3, 6, 0, 1) := fun h => absurd h (by decide)
theorem wcl_3 (base : Nat) : ∀ x ∈ ecl__3, pCLe base 3 x := List.forall_mem_cons.mpr ⟨(wcl_3_3 base), fun _ h => absurd h List.not_mem_nil⟩
theorem wcl_4_3 (base : Nat) : pCLe base 4 (3, 6, 0, 1) := fun h => absurd h (by decide)
theorem wcl_4 (base : Nat) : ∀ x ∈ ecl__4, pCLe base 4 x := List.forall_mem_cons.mpr ⟨(wcl_4_3 base), fun _ h => absurd h List.not_mem_nil⟩
theorem wcl_5_3 (base : Nat) : pCLe base 5 (3, 6, 0, 1) := fun h => absurd h (by decide)
theorem wcl_5_17 (base : Nat) : pCLe base 5 (17, 2, 1, 1) := fun _ q hq => by
  have hq2 : eMT1 1 = some q := hq
  cases (show eMT1 1 = some (em_1, 1) from rfl).symm.trans hq2
  exact ⟨yX1_init, cX1_init, none, ve_1, ⟨by decide +kernel, Or.inr (Or.inr (Or.inl ⟨rfl, tbT 266 (by decide +kernel) rfl, tbT 196 (by decide +kernel) rfl, rfl⟩))⟩, fun h => absurd h (by decide)⟩
theorem wcl_5 (base : Nat) : ∀ x ∈ ecl__5, pCLe base 5 x := List.forall_mem_cons.mpr ⟨(wcl_5_3 base), List.forall_mem_cons.mpr ⟨(wcl_5_17 base), fun _ h => absurd h List.not_mem_nil⟩⟩
theorem wcl_6_3 (base : Nat) : pCLe base 6 (3, 6, 0, 1) := fun h => absurd h (by decide)
theorem wcl_6 (base : Nat) : ∀ x ∈ ecl__6, pCLe base 6 x := List.forall_mem_cons.mpr ⟨(wcl_6_3 base), fun _ h => absurd h List.not_mem_nil⟩
theorem wcl_7_3 (base : Nat) : pCLe base 7 (3, 6, 0, 1) := fun h => absurd h (by decide)
theorem wcl_7_19 (base : Nat) : pCLe base 7 (19, 8, 0, 1) := fun h => absurd h (by decide)
theorem wcl_7 (base : Nat) : ∀ x ∈ ecl__7, pCLe base 7 x := List.forall_mem_cons.mpr ⟨(wcl_7_3 base), List.forall_mem_cons.mpr ⟨(wcl_7_19 base), fun _ h => absurd h List.not_mem_nil⟩⟩
theorem wcl_8_3 (base : Nat) : pCLe base 8 (3, 6, 0, 1) := fun h => absurd h (by decide)
theorem wcl_8 (base : Nat) : ∀ x ∈ ecl__8, pCLe base 8 x := List.forall_mem_cons.mpr ⟨(wcl_8_3 base), fun _ h => absurd h List.not_mem_nil⟩
theorem wcl_9_3 (base : Nat) : pCLe base 9 (3, 6, 0, 1) := fun h => absurd h (by decide)
theorem wcl_9_11 (base : Nat) : pCLe base 9 (11, 5, 8, 1) := fun _ q hq => by
  have hq2 : eMT1 8 = some q := hq
  cases (show eMT1 8 = some (em_8, 1) from rfl).symm.trans hq2
  exact ⟨yX8_init, cX8_init, none, ve_8, ⟨by decide +kernel, Or.inr (Or.inr (Or.inr (Or.inr (Or.inr ⟨rfl, ⟨"WardrobeRow", fun s h => h.1 _ (List.mem_of_getElem? (i := 8) rfl)⟩, tbT 145 (by decide +kernel) rfl, rfl⟩))))⟩, fun h => absurd h (by decide)⟩
theorem wcl_9_20 (base : Nat) : pCLe base 9 (20, 2, 1, 1) := fun _ q hq => by
  have hq2 : eMT1 1 = some q := hq
  cases (show eMT1 1 = some (em_1, 1) from rfl).symm.trans hq2
  exact ⟨yX1_init, cX1_init, none, ve_1, ⟨by decide +kernel, Or.inr (Or.inr (Or.inl ⟨rfl, tbT 309 (by decide +kernel) rfl, tbT 196 (by decide +kernel) rfl, rfl⟩))⟩, fun h => absurd h (by decide)⟩
theorem wcl_9 (base : Nat) : ∀ x ∈ ecl__9, pCLe base 9 x := List.forall_mem_cons.mpr ⟨(wcl_9_3 base), List.forall_mem_cons.mpr ⟨(wcl_9_11 base), List.forall_mem_cons.mpr ⟨(wcl_9_20 base), fun _ h => absurd h List.not_mem_nil⟩⟩⟩
theorem wcl_10_3 (base : Nat) : pCLe base 10 (3, 6, 0, 1) := fun h => absurd h (by decide)
theorem wcl_10 (base : Nat) : ∀ x ∈ ecl__10, pCLe base 10 x := List.forall_mem_cons.mpr ⟨(wcl_10_3 base), fun _ h => absurd h List.not_mem_nil⟩
theorem wcl_11_1 (base : Nat) : pCLe base 11 (1, 6, 0, 1) := fun h => absurd h (by decide)
theorem wcl_11_9 (base : Nat) : pCLe base 11 (9, 2, 7, 1) := fun _ q hq => by
  have hq2 : eMT1 7 = some q := hq
  cases (show eMT1 7 = some (em_7, 2) from rfl).symm.trans hq2
  exact ⟨yX7_init, cX7_init, none, ve_7, ⟨by decide +kernel, Or.inr (Or.inr (Or.inl ⟨rfl, tbT 36 (by decide +kernel) rfl, tbT 37 (by decide +kernel) rfl, rfl⟩))⟩, fun h => absurd h (by decide)⟩
theorem wcl_11_18 (base : Nat) : pCLe base 11 (18, 5, 8, 1) := fun _ q hq => by
  have hq2 : eMT1 8 = some q := hq
  cases (show eMT1 8 = some (em_8, 1) from rfl).symm.trans hq2
  exact ⟨yX8_init, cX8_init, none, ve_8, ⟨by decide +kernel, Or.inr (Or.inr (Or.inr (Or.inr (Or.inr ⟨rfl, ⟨"WardrobeRow", fun s h => h.1 _ (List.mem_of_getElem? (i := 0) rfl)⟩, tbT 145 (by decide +kernel) rfl, rfl⟩))))⟩, fun h => absurd h (by decide)⟩
theorem wcl_11_25 (base : Nat) : pCLe base 11 (25, 2, 1, 1) := fun _ q hq => by
  have hq2 : eMT1 1 = some q := hq
  cases (show eMT1 1 = some (em_1, 1) from rfl).symm.trans hq2
  exact ⟨yX1_init, cX1_init, none, ve_1, ⟨by decide +kernel, Or.inr (Or.inr (Or.inl ⟨rfl, tbT 195 (by decide +kernel) rfl, tbT 196 (by decide +kernel) rfl, rfl⟩))⟩, fun h => absurd h (by decide)⟩
theorem wcl_11_35 (base : Nat) : pCLe base 11 (35, 2, 5, 1) := fun _ q hq => by
  have hq2 : eMT1 5 = some q := hq
  cases (show eMT1 5 = some (em_5, 2) from rfl).symm.trans hq2
  exact ⟨yX5_init, cX5_init, none, ve_5, ⟨by decide +kernel, Or.inr (Or.inr (Or.inl ⟨rfl, tbT 260 (by decide +kernel) rfl, tbT 261 (by decide +kernel) rfl, rfl⟩))⟩, fun h => absurd h (by decide)⟩
theorem wcl_11_42 (base : Nat) : pCLe base 11 (42, 5, 6, 1) := fun _ q hq => by
  have hq2 : eMT1 6 = some q := hq
  cases (show eMT1 6 = some (em_6, 1) from rfl).symm.trans hq2
  exact ⟨yX6_init, cX6_init, none, ve_6, ⟨by decide +kernel, Or.inr (Or.inr (Or.inr (Or.inr (Or.inr ⟨rfl, ⟨"WardrobeRow", fun s h => h.1 _ (List.mem_of_getElem? (i := 1) rfl)⟩, tbT 280 (by decide +kernel) rfl, rfl⟩))))⟩, fun h => absurd h (by decide)⟩
theorem wcl_11_52 (base : Nat) : pCLe base 11 (52, 5, 9, 1) := fun _ q hq => by
  have hq2 : eMT1 9 = some q := hq
  cases (show eMT1 9 = some (em_9, 1) from rfl).symm.trans hq2
  exact ⟨yX9_init, cX9_init, none, ve_9, ⟨by decide +kernel, Or.inr (Or.inr (Or.inr (Or.inr (Or.inr ⟨rfl, ⟨"WardrobeRow", fun s h => h.1 _ (List.mem_of_getElem? (i := 2) rfl)⟩, tbT 303 (by decide +kernel) rfl, rfl⟩))))⟩, fun h => absurd h (by decide)⟩
theorem wcl_11_59 (base : Nat) : pCLe base 11 (59, 5, 0, 1) := fun _ q hq => by
  have hq2 : eMT1 0 = some q := hq
  cases (show eMT1 0 = some (em_0, 1) from rfl).symm.trans hq2
  exact ⟨yX0_init, cX0_init, none, ve_0, ⟨by decide +kernel, Or.inr (Or.inr (Or.inr (Or.inr (Or.inr ⟨rfl, ⟨"WardrobeRow", fun s h => h.1 _ (List.mem_of_getElem? (i := 3) rfl)⟩, tbT 322 (by decide +kernel) rfl, rfl⟩))))⟩, fun h => absurd h (by decide)⟩
theorem wcl_11_66 (base : Nat) : pCLe base 11 (66, 5, 10, 1) := fun _ q hq => by
  have hq2 : eMT1 10 = some q := hq
  cases (show eMT1 10 = some (em_10, 1) from rfl).symm.trans hq2
  exact ⟨yX10_init, cX10_init, none, ve_10, ⟨by decide +kernel, Or.inr (Or.inr (Or.inr (Or.inr (Or.inr ⟨rfl, ⟨"WardrobeRow", fun s h => h.1 _ (List.mem_of_getElem? (i := 4) rfl)⟩, tbT 364 (by decide +kernel) rfl, rfl⟩))))⟩, fun h => absurd h (by decide)⟩
theorem wcl_11_73 (base : Nat) : pCLe base 11 (73, 5, 3, 1) := fun _ q hq => by
  have hq2 : eMT1 3 = some q := hq
  cases (show eMT1 3 = some (em_3, 1) from rfl).symm.trans hq2
  exact ⟨yX3_init, cX3_init, none, ve_3, ⟨by decide +kernel, Or.inr (Or.inr (Or.inr (Or.inr (Or.inr ⟨rfl, ⟨"WardrobeRow", fun s h => h.1 _ (List.mem_of_getElem? (i := 5) rfl)⟩, tbT 392 (by decide +kernel) rfl, rfl⟩))))⟩, fun h => absurd h (by decide)⟩
theorem wcl_11_80 (base : Nat) : pCLe base 11 (80, 5, 4, 1) := fun _ q hq => by
  have hq2 : eMT1 4 = some q := hq
  cases (show eMT1 4 = some (em_4, 1) from rfl).symm.trans hq2
  exact ⟨yX4_init, cX4_init, none, ve_4, ⟨by decide +kernel, Or.inr (Or.inr (Or.inr (Or.inr (Or.inr ⟨rfl, ⟨"WardrobeRow", fun s h => h.1 _ (List.mem_of_getElem? (i := 6) rfl)⟩, tbT 405 (by decide +kernel) rfl, rfl⟩))))⟩, fun h => absurd h (by decide)⟩
theorem wcl_11_87 (base : Nat) : pCLe base 11 (87, 5, 2, 1) := fun _ q hq => by
  have hq2 : eMT1 2 = some q := hq
  cases (show eMT1 2 = some (em_2, 1) from rfl).symm.trans hq2
  exact ⟨yX2_init, cX2_init, none, ve_2, ⟨by decide +kernel, Or.inr (Or.inr (Or.inr (Or.inr (Or.inr ⟨rfl, ⟨"WardrobeRow", fun s h => h.1 _ (List.mem_of_getElem? (i := 7) rfl)⟩, tbT 441 (by decide +kernel) rfl, rfl⟩))))⟩, fun h => absurd h (by decide)⟩
theorem wcl_11 (base : Nat) : ∀ x ∈ ecl__11, pCLe base 11 x := List.forall_mem_cons.mpr ⟨(wcl_11_1 base), List.forall_mem_cons.mpr ⟨(wcl_11_9 base), List.forall_mem_cons.mpr ⟨(wcl_11_18 base), List.forall_mem_cons.mpr ⟨(wcl_11_25 base), List.forall_mem_cons.mpr ⟨(wcl_11_35 base), List.forall_mem_cons.mpr ⟨(wcl_11_42 base), List.forall_mem_cons.mpr ⟨(wcl_11_52 base), List.forall_mem_cons.mpr ⟨(wcl_11_59 base), List.forall_mem_cons.mpr ⟨(wcl_11_66 base), List.forall_mem_cons.mpr ⟨(wcl_11_73 base), List.forall_mem_cons.mpr ⟨(wcl_11_80 base), List.forall_mem_cons.mpr ⟨(wcl_11_87 base), fun _ h => absurd h List.not_mem_nil⟩⟩⟩⟩⟩⟩⟩⟩⟩⟩⟩⟩
theorem wcl_12_27 (base : Nat) : pCLe base 12 (27, 6, 0, 1) := fun h => absurd h (by decide)
theorem wcl_12 (base : Nat) : ∀ x ∈ ecl__12, pCLe base 12 x := List.forall_mem_cons.mpr ⟨(wcl_12_27 base), fun _ h => absurd h List.not_mem_nil⟩
theorem wcl_13_15 (base : Nat) : pCLe base 13 (15, 2, 11, 1) := fun _ q hq => by
  have hq2 : eMT1 11 = some q := hq
  cases (show eMT1 11 = some (em_11, 2) from rfl).symm.trans hq2
  exact ⟨yX11_init, cX11_init, none, ve_11, ⟨by decide +kernel, Or.inr (Or.inr (Or.inl ⟨rfl, tbT 28 (by decide +kernel) rfl, tbT 29 (by decide +kernel) rfl, rfl⟩))⟩, fun h => absurd h (by decide)⟩
theorem wcl_13_18 (base : Nat) : pCLe base 13 (18, 2, 12, 1) := fun _ q hq => by
  have hq2 : eMT1 12 = some q := hq
  cases (show eMT1 12 = some (em_12, 1) from rfl).symm.trans hq2
  exact ⟨yX12_init, cX12_init, none, ve_12, ⟨by decide +kernel, Or.inr (Or.inr (Or.inl ⟨rfl, tbT 1374 (by decide +kernel) rfl, tbT 1375 (by decide +kernel) rfl, rfl⟩))⟩, fun h => absurd h (by decide)⟩
theorem wcl_13 (base : Nat) : ∀ x ∈ ecl__13, pCLe base 13 x := List.forall_mem_cons.mpr ⟨(wcl_13_15 base), List.forall_mem_cons.mpr ⟨(wcl_13_18 base), fun _ h => absurd h List.not_mem_nil⟩⟩
theorem wcl_14 (base : Nat) : ∀ x ∈ ecl__14, pCLe base 14 x := fun _ h => absurd h List.not_mem_nil
theorem wcl_15 (base : Nat) : ∀ x ∈ ecl__15, pCLe base 15 x := fun _ h => absurd h List.not_mem_nil
theorem wcl_16 (base : Nat) : ∀ x ∈ ecl__16, pCLe base 16 x := fun _ h => absurd h List.not_mem_nil
theorem wcl (base : Nat) : eAll (pCLe base) 0 ecl_ := ⟨(wcl_0 base), (wcl_1 base), (wcl_2 base), (wcl_3 base), (wcl_4 base), (wcl_5 base), (wcl_6 base), (wcl_7 base), (wcl_8 base), (wcl_9 base), (wcl_10 base), (wcl_11 base), (wcl_12 base), (wcl_13 base), (wcl_14 base), (wcl_15 base), (wcl_16 base), trivial⟩
theorem w_CL (base : Nat) : eCok vwCl Tb1 (NF1 base) eCN eCL1 eMT1 := fun o idx kd mno n h => ga2_all (P := pCLe base) (wcl base) h
def pObe (o : Nat) (x : Nat × Nat × Nat × Nat) : Prop := (x.2.1 = 6 → Cond.methodLink (eCN o) x.1 objectInit ∈ Tb1) ∧ (x.2.1 = 7 → Cond.methodLink (eCN o) x.1 arraycopyName ∈ Tb1)
theorem wob_0_3 : pObe 0 (3, 6, 0, 1) := ⟨fun _ => tbT 324 (by decide +kernel) rfl, fun h => absurd h (by decide)⟩
theorem wob_0 : ∀ x ∈ ecl__0, pObe 0 x := List.forall_mem_cons.mpr ⟨wob_0_3, fun _ h => absurd h List.not_mem_nil⟩
theorem wob_1_3 : pObe 1 (3, 6, 0, 1) := ⟨fun _ => tbT 198 (by decide +kernel) rfl, fun h => absurd h (by decide)⟩
theorem wob_1_27 : pObe 1 (27, 0, 14, 2) := ⟨fun h => absurd h (by decide), fun h => absurd h (by decide)⟩
theorem wob_1 : ∀ x ∈ ecl__1, pObe 1 x := List.forall_mem_cons.mpr ⟨wob_1_3, List.forall_mem_cons.mpr ⟨wob_1_27, fun _ h => absurd h List.not_mem_nil⟩⟩
theorem wob_2_3 : pObe 2 (3, 6, 0, 1) := ⟨fun _ => tbT 443 (by decide +kernel) rfl, fun h => absurd h (by decide)⟩
theorem wob_2 : ∀ x ∈ ecl__2, pObe 2 x := List.forall_mem_cons.mpr ⟨wob_2_3, fun _ h => absurd h List.not_mem_nil⟩
theorem wob_3_3 : pObe 3 (3, 6, 0, 1) := ⟨fun _ => tbT 394 (by decide +kernel) rfl, fun h => absurd h (by decide)⟩
theorem wob_3 : ∀ x ∈ ecl__3, pObe 3 x := List.forall_mem_cons.mpr ⟨wob_3_3, fun _ h => absurd h List.not_mem_nil⟩
theorem wob_4_3 : pObe 4 (3, 6, 0, 1) := ⟨fun _ => tbT 407 (by decide +kernel) rfl, fun h => absurd h (by decide)⟩
theorem wob_4 : ∀ x ∈ ecl__4, pObe 4 x := List.forall_mem_cons.mpr ⟨wob_4_3, fun _ h => absurd h List.not_mem_nil⟩
theorem wob_5_3 : pObe 5 (3, 6, 0, 1) := ⟨fun _ => tbT 263 (by decide +kernel) rfl, fun h => absurd h (by decide)⟩
theorem wob_5_17 : pObe 5 (17, 2, 1, 1) := ⟨fun h => absurd h (by decide), fun h => absurd h (by decide)⟩
theorem wob_5 : ∀ x ∈ ecl__5, pObe 5 x := List.forall_mem_cons.mpr ⟨wob_5_3, List.forall_mem_cons.mpr ⟨wob_5_17, fun _ h => absurd h List.not_mem_nil⟩⟩
theorem wob_6_3 : pObe 6 (3, 6, 0, 1) := ⟨fun _ => tbT 282 (by decide +kernel) rfl, fun h => absurd h (by decide)⟩
theorem wob_6 : ∀ x ∈ ecl__6, pObe 6 x := List.forall_mem_cons.mpr ⟨wob_6_3, fun _ h => absurd h List.not_mem_nil⟩
theorem wob_7_3 : pObe 7 (3, 6, 0, 1) := ⟨fun _ => tbT 39 (by decide +kernel) rfl, fun h => absurd h (by decide)⟩
theorem wob_7_19 : pObe 7 (19, 8, 0, 1) := ⟨fun h => absurd h (by decide), fun h => absurd h (by decide)⟩
theorem wob_7 : ∀ x ∈ ecl__7, pObe 7 x := List.forall_mem_cons.mpr ⟨wob_7_3, List.forall_mem_cons.mpr ⟨wob_7_19, fun _ h => absurd h List.not_mem_nil⟩⟩
theorem wob_8_3 : pObe 8 (3, 6, 0, 1) := ⟨fun _ => tbT 147 (by decide +kernel) rfl, fun h => absurd h (by decide)⟩
theorem wob_8 : ∀ x ∈ ecl__8, pObe 8 x := List.forall_mem_cons.mpr ⟨wob_8_3, fun _ h => absurd h List.not_mem_nil⟩
theorem wob_9_3 : pObe 9 (3, 6, 0, 1) := ⟨fun _ => tbT 305 (by decide +kernel) rfl, fun h => absurd h (by decide)⟩
theorem wob_9_11 : pObe 9 (11, 5, 8, 1) := ⟨fun h => absurd h (by decide), fun h => absurd h (by decide)⟩
theorem wob_9_20 : pObe 9 (20, 2, 1, 1) := ⟨fun h => absurd h (by decide), fun h => absurd h (by decide)⟩
theorem wob_9 : ∀ x ∈ ecl__9, pObe 9 x := List.forall_mem_cons.mpr ⟨wob_9_3, List.forall_mem_cons.mpr ⟨wob_9_11, List.forall_mem_cons.mpr ⟨wob_9_20, fun _ h => absurd h List.not_mem_nil⟩⟩⟩
theorem wob_10_3 : pObe 10 (3, 6, 0, 1) := ⟨fun _ => tbT 366 (by decide +kernel) rfl, fun h => absurd h (by decide)⟩
theorem wob_10 : ∀ x ∈ ecl__10, pObe 10 x := List.forall_mem_cons.mpr ⟨wob_10_3, fun _ h => absurd h List.not_mem_nil⟩
theorem wob_11_1 : pObe 11 (1, 6, 0, 1) := ⟨fun _ => tbT 31 (by decide +kernel) rfl, fun h => absurd h (by decide)⟩
theorem wob_11_9 : pObe 11 (9, 2, 7, 1) := ⟨fun h => absurd h (by decide), fun h => absurd h (by decide)⟩
theorem wob_11_18 : pObe 11 (18, 5, 8, 1) := ⟨fun h => absurd h (by decide), fun h => absurd h (by decide)⟩
theorem wob_11_25 : pObe 11 (25, 2, 1, 1) := ⟨fun h => absurd h (by decide), fun h => absurd h (by decide)⟩
theorem wob_11_35 : pObe 11 (35, 2, 5, 1) := ⟨fun h => absurd h (by decide), fun h => absurd h (by decide)⟩
theorem wob_11_42 : pObe 11 (42, 5, 6, 1) := ⟨fun h => absurd h (by decide), fun h => absurd h (by decide)⟩
theorem wob_11_52 : pObe 11 (52, 5, 9, 1) := ⟨fun h => absurd h (by decide), fun h => absurd h (by decide)⟩
theorem wob_11_59 : pObe 11 (59, 5, 0, 1) := ⟨fun h => absurd h (by decide), fun h => absurd h (by decide)⟩
theorem wob_11_66 : pObe 11 (66, 5, 10, 1) := ⟨fun h => absurd h (by decide), fun h => absurd h (by decide)⟩
theorem wob_11_73 : pObe 11 (73, 5, 3, 1) := ⟨fun h => absurd h (by decide), fun h => absurd h (by decide)⟩
theorem wob_11_80 : pObe 11 (80, 5, 4, 1) := ⟨fun h => absurd h (by decide), fun h => absurd h (by decide)⟩
theorem wob_11_87 : pObe 11 (87, 5, 2, 1) := ⟨fun h => absurd h (by decide), fun h => absurd h (by decide)⟩
theorem wob_11 : ∀ x ∈ ecl__11, pObe 11 x := List.forall_mem_cons.mpr ⟨wob_11_1, List.forall_mem_cons.mpr ⟨wob_11_9, List.forall_mem_cons.mpr ⟨wob_11_18, List.forall_mem_cons.mpr ⟨wob_11_25, List.forall_mem_cons.mpr ⟨wob_11_35, List.forall_mem_cons.mpr ⟨wob_11_42, List.forall_mem_cons.mpr ⟨wob_11_52, List.forall_mem_cons.mpr ⟨wob_11_59, List.forall_mem_cons.mpr ⟨wob_11_66, List.forall_mem_cons.mpr ⟨wob_11_73, List.forall_mem_cons.mpr ⟨wob_11_80, List.forall_mem_cons.mpr ⟨wob_11_87, fun _ h => absurd h List.not_mem_nil⟩⟩⟩⟩⟩⟩⟩⟩⟩⟩⟩⟩
theorem wob_12_27 : pObe 12 (27, 6, 0, 1) := ⟨fun _ => tbT 1377 (by decide +kernel) rfl, fun h => absurd h (by decide)⟩
theorem wob_12 : ∀ x ∈ ecl__12, pObe 12 x := List.forall_mem_cons.mpr ⟨wob_12_27, fun _ h => absurd h List.not_mem_nil⟩
theorem wob_13_15 : pObe 13 (15, 2, 11, 1) := ⟨fun h => absurd h (by decide), fun h => absurd h (by decide)⟩
theorem wob_13_18 : pObe 13 (18, 2, 12, 1) := ⟨fun h => absurd h (by decide), fun h => absurd h (by decide)⟩
theorem wob_13 : ∀ x ∈ ecl__13, pObe 13 x := List.forall_mem_cons.mpr ⟨wob_13_15, List.forall_mem_cons.mpr ⟨wob_13_18, fun _ h => absurd h List.not_mem_nil⟩⟩
theorem wob_14 : ∀ x ∈ ecl__14, pObe 14 x := fun _ h => absurd h List.not_mem_nil
theorem wob_15 : ∀ x ∈ ecl__15, pObe 15 x := fun _ h => absurd h List.not_mem_nil
theorem wob_16 : ∀ x ∈ ecl__16, pObe 16 x := fun _ h => absurd h List.not_mem_nil
theorem wob : eAll pObe 0 ecl_ := ⟨wob_0, wob_1, wob_2, wob_3, wob_4, wob_5, wob_6, wob_7, wob_8, wob_9, wob_10, wob_11, wob_12, wob_13, wob_14, wob_15, wob_16, trivial⟩
theorem w_Ob : eOok Tb1 eCN eCL1 := ⟨fun o idx x n h => (ga2_all (P := pObe) wob h).1 rfl, tbT 32 (by decide +kernel) rfl, tbT 33 (by decide +kernel) rfl, fun o idx x n h => (ga2_all (P := pObe) wob h).2 rfl, tbT 688 (by decide +kernel) rfl, tbT 687 (by decide +kernel) rfl, tbT 20 (by decide +kernel) rfl⟩
