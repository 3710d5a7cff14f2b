/-! THE START: what the Statement gives of the state ahead of the law. -/
def fl_1 : List Cond := flatC (Jvm.Cond.and given_1 narrow_1)
theorem tbL {w : Cond} (i : Nat) (h : tables_1[i]? = some w) : w ∈ lw_tbl := List.mem_append_right _ (List.mem_of_getElem? h)
def el_c (i j : Nat) : Cond := Cond.eq (.elem (.field (scTm i) "java/lang/String" "value" "[B") (.int (Int32.ofNat j))) (.int ((scByt.getD i []).getD j 0))
theorem sg {i n P : Nat} (h : (fl_1.drop P).take n = (List.range n).map (el_c i)) : ∀ j, j < n → el_c i j ∈ fl_1 := fun j hj => List.mem_of_mem_drop (List.mem_of_mem_take (by rw [h]; exact List.mem_map.mpr ⟨j, List.mem_range.mpr hj, rfl⟩))
theorem sg_0 : (fl_1.drop 73).take 63 = (List.range 63).map (el_c 0) := by decide +kernel
theorem sg_1 : (fl_1.drop 140).take 70 = (List.range 70).map (el_c 1) := by decide +kernel
theorem sg_2 : (fl_1.drop 215).take 77 = (List.range 77).map (el_c 2) := by decide +kernel
theorem sg_3 : (fl_1.drop 298).take 39 = (List.range 39).map (el_c 3) := by decide +kernel
theorem st_el : ∀ i, i < 4 → ∀ j, j < scLen.getD i 0 → el_c i j ∈ fl_1 := by
  intro i hi
  match i, hi with
  | 0, _ => exact sg sg_0
  | 1, _ => exact sg sg_1
  | 2, _ => exact sg sg_2
  | 3, _ => exact sg sg_3
  | n + 4, h => omega
theorem st_a : ∀ i, i < 4 → Cond.exactly (scTm i) "java/lang/String" ∈ fl_1 ∧ Cond.eq (.field (scTm i) "java/lang/String" "coder" "B") (.int 0) ∈ fl_1 ∧ Cond.arrayOf (.field (scTm i) "java/lang/String" "value" "[B") .byte ∈ fl_1 ∧ Cond.eq (.length (.field (scTm i) "java/lang/String" "value" "[B")) (.int (Int32.ofNat (scLen.getD i 0))) ∈ fl_1 := by decide +kernel
theorem st_ne : ∀ i, i < 4 → ∀ j, j < 4 → i ≠ j → Cond.not (Cond.eq (scTm i) (scTm j)) ∈ fl_1 ∨ Cond.not (Cond.eq (scTm j) (scTm i)) ∈ fl_1 := by decide +kernel
theorem st_ln : ∀ i, i < 4 → scLen.getD i 0 < 2 ^ 31 := by decide +kernel
theorem st_nest : ∀ w ∈ nestW, w ∈ lw_tbl := by decide +kernel
theorem st_ao : ∀ C ∈ aoW, Cond.arrayOver (.object C) ∈ lw_tbl := by decide +kernel
theorem st_NF {s : State} {b : Nat} (hts : ∀ w ∈ lw_tbl, w.before #[Value.ref b] s = true) (hgv : (Jvm.Cond.and given_1 narrow_1).before #[Value.ref b] s = true) : NF1 s.heap.size s := by
  have hs : ∀ c ∈ fl_1, c.before #[Value.ref b] s = true := flat_of_before _ hgv
  have hA : ∀ a : Nat, a < s.heap.size → ¬ (fun q : Nat => s.heap.size ≤ q) a := fun a h => Nat.not_le.mpr h
  obtain ⟨adK, adV, hS, hE⟩ := vk_Sof (args := #[Value.ref b]) (s := s) (N := 4) (tm := scTm) (len := scLen) (byt := scByt) (A := fun q => s.heap.size ≤ q) st_ln (fun i hi => hs _ (st_a i hi).1) (fun i hi => hs _ (st_a i hi).2.1) (fun i hi => hs _ (st_a i hi).2.2.1) (fun i hi => hs _ (st_a i hi).2.2.2) (fun i hi j hj => hs _ (st_el i hi j hj))
    (fun i j hi hj hij => (st_ne i hi j hj hij).elim (fun h => Or.inl (hs _ h)) (fun h => Or.inr (hs _ h))) hA
  refine ⟨fun w hw => va_Nw.of (nest_is w hw).1 (hts w (st_nest w hw)), fun C hC => va_AO.of (hts _ (st_ao C hC)), adK, adV, hS, ?_, ?_, ?_, ?_, ?_, ?_, ?_, ?_, ?_, ?_, ?_, ?_⟩
  · exact vk_R.of (hts _ (tbL 43 (by decide +kernel))) (hE 0 (by decide))
  · exact vk_R.of (hts _ (tbL 44 (by decide +kernel))) (hE 1 (by decide))
  · exact vk_R.of (hts _ (tbL 45 (by decide +kernel))) (hE 2 (by decide))
  · exact vk_R.of (hts _ (tbL 1332 (by decide +kernel))) (hE 3 (by decide))
  · exact va_Zof (hts _ (tbL 55 (by decide +kernel))) (hts _ (tbL 3 (by decide +kernel))) (va_eqt (hs _ (List.mem_of_getElem? (i := 4) (by decide +kernel)))) hA
  · exact va_Zqof (hts _ (tbL 71 (by decide +kernel))) (hts _ (tbL 5 (by decide +kernel))) (hs _ (List.mem_of_getElem? (i := 5) (by decide +kernel))) hA
  · exact vx_Zqof (hts _ (tbL 1320 (by decide +kernel))) (hts _ (tbL 21 (by decide +kernel))) (hs _ (List.mem_of_getElem? (i := 9) (by decide +kernel))) hA
  · exact vx_Zqof (hts _ (tbL 1322 (by decide +kernel))) (hts _ (tbL 21 (by decide +kernel))) (hs _ (List.mem_of_getElem? (i := 10) (by decide +kernel))) hA
  · exact va_Nw.of rfl (hts _ (tbL 1295 (by decide +kernel)))
  · exact va_Nw.of rfl (hts _ (tbL 1297 (by decide +kernel)))
  · exact va_Nw.of rfl (hts _ (tbL 1299 (by decide +kernel)))
  · exact va_Nw.of rfl (hts _ (tbL 1301 (by decide +kernel)))
