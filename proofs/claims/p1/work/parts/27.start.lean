/-! THE START: what the Statement gives of the state ahead of the law. -/
def fl_1 : List Cond := flatC (Jvm.Cond.and given_1 narrow_1)
theorem tbL {w : Cond} (i : Nat) (h : tables_1[i]? = some w) : w ∈ lw_tbl := List.mem_append_right _ (List.mem_of_getElem? h)
def el_c (i j : Nat) : Cond := Cond.eq (.elem (.field (scTm i) "java/lang/String" "value" "[B") (.int (Int32.ofNat j))) (.int ((scByt.getD i []).getD j 0))
theorem sg {i n P : Nat} (h : (fl_1.drop P).take n = (List.range n).map (el_c i)) : ∀ j, j < n → el_c i j ∈ fl_1 := fun j hj => List.mem_of_mem_drop (List.mem_of_mem_take (by rw [h]; exact List.mem_map.mpr ⟨j, List.mem_range.mpr hj, rfl⟩))
theorem sg_0 : (fl_1.drop 73).take 63 = (List.range 63).map (el_c 0) := by decide +kernel
theorem sg_1 : (fl_1.drop 140).take 70 = (List.range 70).map (el_c 1) := by decide +kernel
theorem sg_2 : (fl_1.drop 215).take 77 = (List.range 77).map (el_c 2) := by decide +kernel
theorem sg_3 : (fl_1.drop 298).take 39 = (List.range 39).map (el_c 3) := by decide +kernel
theorem st_el : ∀ i, i < 4 → ∀ j, j < scLen.getD i 0 → el_c i j ∈ fl_1 := by
  intro i hi
  match i, hi with
  | 0, _ => exact sg sg_0
  | 1, _ => exact sg sg_1
  | 2, _ => exact sg sg_2
  | 3, _ => exact sg sg_3
  | n + 4, h => omega
theorem st_a : ∀ i, i < 4 → Cond.exactly (scTm i) "java/lang/String" ∈ fl_1 ∧ Cond.eq (.field (scTm i) "java/lang/String" "coder" "B") (.int 0) ∈ fl_1 ∧ Cond.arrayOf (.field (scTm i) "java/lang/String" "value" "[B") .byte ∈ fl_1 ∧ Cond.eq (.length (.field (scTm i) "java/lang/String" "value" "[B")) (.int (Int32.ofNat (scLen.getD i 0))) ∈ fl_1 := by decide +kernel
theorem st_ne : ∀ i, i < 4 → ∀ j, j < 4 → i ≠ j → Cond.not (Cond.eq (scTm i) (scTm j)) ∈ fl_1 ∨ Cond.not (Cond.eq (scTm j) (scTm i)) ∈ fl_1 := by decide +kernel
theorem st_ln : ∀ i, i < 4 → scLen.getD i 0 < 2 ^ 31 := by decide +kernel
theorem st_nest : ∀ w ∈ nestW, w ∈ lw_tbl := by decide +kernel
theorem st_ao : ∀ C ∈ aoW, Cond.arrayOver (.object C) ∈ lw_tbl := by decide +kernel
theorem st_NF {s : State} {b : Nat} (hts : ∀ w ∈ lw_tbl, w.before #[Value.ref b] s = true) (hgv : (Jvm.Cond.and given_1 narrow_1).before #[Value.ref b] s = true) : NF1 s.heap.size s := by
  have hs : ∀ c ∈ fl_1, c.before #[Value.ref b] s = true := flat_of_before _ hgv
  have hA : ∀ a : Nat, a < s.heap.size → ¬ (fun q : Nat => s.heap.size ≤ q) a := fun a h => Nat.not_le.mpr h
  obtain ⟨adK, adV, hS, hE⟩ := vk_Sof (args := #[Value.ref b]) (s := s) (N := 4) (tm := scTm) (len := scLen) (byt := scByt) (A := fun q => s.heap.size ≤ q) st_ln (fun i hi => hs _ (st_a i hi).1) (fun i hi => hs _ (st_a i hi).2.1) (fun i hi => hs _ (st_a i hi).2.2.1) (fun i hi => hs _ (st_a i hi).2.2.2) (fun i hi j hj => hs _ (st_el i hi j hj))
    (fun i j hi hj hij => (st_ne i hi j hj hij).elim (fun h => Or.inl (hs _ h)) (fun h => Or.inr (hs _ h))) hA
  refine ⟨fun w hw => va_Nw.of (nest_is w hw).1 (hts w (st_nest w hw)), fun C hC => va_AO.of (hts _ (st_ao C hC)), adK, adV, hS, ?_, ?_, ?_, ?_, ?_, ?_, ?_, ?_, ?_, ?_, ?_, ?_⟩
  · exact vk_R.of (hts _ (tbL 43 (by decide +kernel))) (hE 0 (by decide))
  · exact vk_R.of (hts _ (tbL 44 (by decide +kernel))) (hE 1 (by decide))
  · exact vk_R.of (hts _ (tbL 45 (by decide +kernel))) (hE 2 (by decide))
  · exact vk_R.of (hts _ (tbL 1332 (by decide +kernel))) (hE 3 (by decide))
  · exact va_Zof (hts _ (tbL 55 (by decide +kernel))) (hts _ (tbL 3 (by decide +kernel))) (va_eqt (hs _ (List.mem_of_getElem? (i := 4) (by decide +kernel)))) hA
  · exact va_Zqof (hts _ (tbL 71 (by decide +kernel))) (hts _ (tbL 5 (by decide +kernel))) (hs _ (List.mem_of_getElem? (i := 5) (by decide +kernel))) hA
  · exact vx_Zqof (hts _ (tbL 1320 (by decide +kernel))) (hts _ (tbL 21 (by decide +kernel))) (hs _ (List.mem_of_getElem? (i := 9) (by decide +kernel))) hA
  · exact vx_Zqof (hts _ (tbL 1322 (by decide +kernel))) (hts _ (tbL 21 (by decide +kernel))) (hs _ (List.mem_of_getElem? (i := 10) (by decide +kernel))) hA
  · exact va_Nw.of rfl (hts _ (tbL 1295 (by decide +kernel)))
  · exact va_Nw.of rfl (hts _ (tbL 1297 (by decide +kernel)))
  · exact va_Nw.of rfl (hts _ (tbL 1299 (by decide +kernel)))
  · exact va_Nw.of rfl (hts _ (tbL 1301 (by decide +kernel)))
/-- the script's ints, their number, and what the law makes of them -/
def wr (L : Nat) (xs : Nat → Int32) : Nat → Int32 := fun j => match j with
  | 6 => Int32.ofNat L
  | 7 => Int32.ofNat L - 6
  | 8 => xs 0 &&& 63
  | j => xs j
theorem wr_xs (L : Nat) (xs : Nat → Int32) {j : Nat} (hj : j < 6) : wr L xs j = xs j := by
  match j, hj with
  | 0, _ => rfl
  | 1, _ => rfl
  | 2, _ => rfl
  | 3, _ => rfl
  | 4, _ => rfl
  | 5, _ => rfl
  | n + 6, h => omega
theorem w_63 (z : Int32) : 2147483648 ≤ ebz (z &&& 63) ∧ ebz (z &&& 63) ≤ 2147483711 := by
  have h1 : z = Int32.ofNat z.toBitVec.toNat := e_bvn (Nat.mod_eq_of_lt z.toBitVec.isLt).symm
  have h2 : z &&& 63 = Int32.ofNat (Nat.land z.toBitVec.toNat 63) := by
    have h3 := e_and z.toBitVec.toNat 63
    rw [← h1] at h3
    exact h3
  have h4 : Nat.land z.toBitVec.toNat 63 ≤ 63 := Nat.and_le_right
  rw [h2, ebz_nat]
  unfold ebi
  omega
theorem w_L : ∀ L, L ≤ 6 → (2147483648 ≤ ebz (Int32.ofNat L) ∧ ebz (Int32.ofNat L) ≤ 2147483654) ∧ 2147483642 ≤ ebz (Int32.ofNat L - 6) ∧ ebz (Int32.ofNat L - 6) ≤ 2147483648 := by
  intro L hL
  match L, hL with
  | 0, _ => decide +kernel
  | 1, _ => decide +kernel
  | 2, _ => decide +kernel
  | 3, _ => decide +kernel
  | 4, _ => decide +kernel
  | 5, _ => decide +kernel
  | 6, _ => decide +kernel
  | n + 7, h => omega
theorem st_sat {L : Nat} {xs : Nat → Int32} (hL : L ≤ 6) {a b c d : Nat} (h1 : a ≤ ebz (xs 1)) (h2 : ebz (xs 1) ≤ b) (h3 : c ≤ ebz (xs 0 &&& 63)) (h4 : ebz (xs 0 &&& 63) ≤ d) : eSat (wr L xs) (cs_1 a b c d) := by
  intro j q hq
  have ht : ∀ x : Int32, 0 ≤ ebz x ∧ ebz x ≤ 4294967295 := fun x => ⟨Nat.zero_le _, Nat.le_of_lt_succ (ebz_top x)⟩
  match j, hq with
  | 0, hq => cases hq; exact ht _
  | 1, hq => cases hq; exact ⟨h1, h2⟩
  | 2, hq => cases hq; exact ht _
  | 3, hq => cases hq; exact ht _
  | 4, hq => cases hq; exact ht _
  | 5, hq => cases hq; exact ht _
  | 6, hq => cases hq; exact (w_L L hL).1
  | 7, hq => cases hq; exact (w_L L hL).2
  | 8, hq => cases hq; exact ⟨h3, h4⟩
  | n + 9, hq => simp [cs_1] at hq
/-- whatever the script: one of the walks -/
theorem st_run {L : Nat} (xs : Nat → Int32) (hL : L ≤ 6) : ∃ a b c d, run_1 1000000 a b c d = true ∧ eSat (wr L xs) (cs_1 a b c d) := by
  have hv := w_63 (xs 0)
  have hu := ebz_top (xs 1)
  by_cases g1 : ebz (xs 0 &&& 63) ≤ 2147483663
  · exact ⟨_, _, _, _, ev_lo, st_sat hL (Nat.zero_le _) (by omega) hv.1 g1⟩
  by_cases g2 : 2147483665 ≤ ebz (xs 0 &&& 63)
  · exact ⟨_, _, _, _, ev_hi, st_sat hL (Nat.zero_le _) (by omega) g2 hv.2⟩
  have g3 : 2147483664 ≤ ebz (xs 0 &&& 63) ∧ ebz (xs 0 &&& 63) ≤ 2147483664 := by omega
  by_cases q0 : ebz (xs 1) ≤ 2147483648
  · exact ⟨_, _, _, _, ev_m0, st_sat hL (Nat.zero_le _) q0 g3.1 g3.2⟩
  by_cases q1 : ebz (xs 1) ≤ 2147483652
  · exact ⟨_, _, _, _, ev_m1, st_sat hL (by omega) q1 g3.1 g3.2⟩
  by_cases p0 : ebz (xs 1) ≤ 2147483660
  · exact ⟨_, _, _, _, ev_n0, st_sat hL (by omega) p0 g3.1 g3.2⟩
  by_cases p1 : ebz (xs 1) ≤ 2147483668
  · exact ⟨_, _, _, _, ev_n1, st_sat hL (by omega) p1 g3.1 g3.2⟩
  by_cases p2 : ebz (xs 1) ≤ 2147483676
  · exact ⟨_, _, _, _, ev_n2, st_sat hL (by omega) p2 g3.1 g3.2⟩
  by_cases p3 : ebz (xs 1) ≤ 2147483684
  · exact ⟨_, _, _, _, ev_n3, st_sat hL (by omega) p3 g3.1 g3.2⟩
  by_cases p4 : ebz (xs 1) ≤ 2147483692
  · exact ⟨_, _, _, _, ev_n4, st_sat hL (by omega) p4 g3.1 g3.2⟩
  by_cases p5 : ebz (xs 1) ≤ 2147483700
  · exact ⟨_, _, _, _, ev_n5, st_sat hL (by omega) p5 g3.1 g3.2⟩
  by_cases p6 : ebz (xs 1) ≤ 2147483708
  · exact ⟨_, _, _, _, ev_n6, st_sat hL (by omega) p6 g3.1 g3.2⟩
  exact ⟨_, _, _, _, ev_m7, st_sat hL (by omega) (by omega) g3.1 g3.2⟩
