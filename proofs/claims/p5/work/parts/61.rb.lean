/-! WHAT THE ROUNDS KEEP, further: where each Terrace's own things are; the TERRACE that stands and the images kept, alike in both. -/
noncomputable section
/-- what a thing holds, as whole numbers -/
def zci (ws : va_W) (o : Nat) : Int → Int := fun i => if 0 ≤ i then (match gcv ws o i.toNat with
  | some (.int z) => z.toInt
  | some (.long z) => z.toInt
  | _ => 0) else 0
/-- cells that lead from thing to thing -/
def zrfl : List (Nat × Nat × Nat) := [(0, 0, 1), (0, 1, 4), (0, 7, 89), (0, 13, 126), (89, 0, 90), (126, 0, 129), (126, 1, 148), (4, 0, 5), (4, 1, 6), (4, 2, 7), (4, 3, 8), (4, 4, 9), (4, 5, 10), (4, 6, 11), (4, 7, 12), (90, 0, 91), (90, 1, 92), (90, 2, 93), (90, 3, 94), (90, 4, 95), (90, 5, 96), (90, 6, 97), (90, 7, 98), (129, 0, 130), (129, 1, 131), (129, 2, 132), (129, 3, 133), (129, 4, 134), (129, 5, 135), (129, 6, 136), (129, 7, 137), (148, 0, 149), (148, 1, 150), (148, 2, 151), (148, 3, 152), (148, 4, 153), (148, 5, 154), (148, 6, 155), (148, 7, 156)]
def zRf (E : zE) (ws : va_W) : Prop := ∀ q ∈ zrfl, ∃ a : Nat, (zad E)[q.2.2]? = some a ∧ gcv ws q.1 q.2.1 = some (.ref a)
/-- thing T of the class (its arrays behind it) tells what things S (from s0 on), N (from n0 on) of the reference tell -/
def zAl (ws : va_W) (T S s0 N n0 : Nat) : Prop := ((0 ≤ zci ws S (s0 : Int) ∧ zci ws S (s0 : Int) ≤ 6) ∧ (0 ≤ zci ws S ((s0 : Int) + 1) ∧ zci ws S ((s0 : Int) + 1) ≤ 6) ∧ (0 ≤ zci ws S ((s0 : Int) + 2) ∧ zci ws S ((s0 : Int) + 2) ≤ 12) ∧ (0 ≤ zci ws S ((s0 : Int) + 3) ∧ zci ws S ((s0 : Int) + 3) ≤ 20))
  ∧ (∀ k : Int, 0 ≤ k → k < 3 → zci ws (T + 1) k = zci ws S ((s0 : Int) + k)) ∧ (zci ws T 8 = zci ws S ((s0 : Int) + 3) ∧ rbk (zci ws T 9) (zci ws S ((s0 : Int) + 3)) (zci ws S ((s0 : Int) + 4)))
  ∧ cNm (zci ws (T + 2)) (zci ws S (s0 : Int)) (fun i => zci ws N ((n0 : Int) + i)) 0 ∧ cNm (zci ws (T + 3)) (zci ws S ((s0 : Int) + 1)) (fun i => zci ws N ((n0 : Int) + i)) 6 ∧ cNm (zci ws (T + 4)) (zci ws S ((s0 : Int) + 2)) (fun i => zci ws N ((n0 : Int) + i)) 12
/-- the images kept: the class's set, the reference's two -/
def zkr (v a c : Int) : Prop := (v = 0 ∧ a = 0 ∧ c = 0) ∨ (v = 1 ∧ a = 1 ∧ c = 0) ∨ (v = 2 ∧ a = 0 ∧ c = 1) ∨ (v = 3 ∧ a = 1 ∧ c = 1)
def zIm (ws : va_W) : Prop := zkr (zci ws 0 16) (zci ws 193 0) (zci ws 193 1) ∧ (zci ws 193 0 = 1 → zAl ws 129 191 0 192 0) ∧ (zci ws 193 1 = 1 → zAl ws 148 191 402 192 24)
/-- the kind of the last fault, alike in both -/
def zKd (ws : va_W) : Prop := zci ws 1 2 = zci ws 167 15
def zTr (E : zE) (ws : va_W) : Prop := zRf E ws ∧ zAl ws 4 169 0 172 0 ∧ zIm ws ∧ zKd ws
/-- all this speaks of these cells -/
def zclc : List (Nat × Nat × Nat) := [(0, 0, 17), (89, 0, 2), (90, 0, 8), (126, 0, 2), (4, 0, 10), (5, 0, 12), (6, 0, 12), (7, 0, 12), (8, 0, 12), (129, 0, 10), (130, 0, 12), (131, 0, 12), (132, 0, 12), (133, 0, 12), (148, 0, 10), (149, 0, 12), (150, 0, 12), (151, 0, 12), (152, 0, 12)]
def zclr : List (Nat × Nat × Nat) := [(169, 0, 5), (172, 0, 24), (191, 0, 5), (191, 402, 407), (192, 0, 48), (193, 0, 2)]
def zcl : List (Nat × Nat × Nat) := zclc ++ (zclr ++ [(1, 2, 3), (167, 15, 16)])
/-- .. those that lead to things -/
def zclf : List (Nat × Nat × Nat) := [(0, 0, 16), (4, 0, 8), (89, 0, 2), (90, 0, 8), (126, 0, 2), (129, 0, 8), (148, 0, 8)]
def zcsub (M L : List (Nat × Nat × Nat)) : Bool := M.all fun q => L.any fun r => Nat.beq r.1 q.1 && (Nat.ble r.2.1 q.2.1 && Nat.ble q.2.2 r.2.2)
/-- none of the cells may be written -/
def mdz (L : List (Nat × Nat × Nat)) (so : List Nat) (md : aMd) : Bool := L.all fun q => match so[q.1]? with
  | some t => md.all fun r => !(Nat.beq r.1 t && (Nat.blt r.2.1 q.2.2 && Nat.blt q.2.1 r.2.2))
  | none => false
/-- the cells are the same -/
def zCs (L : List (Nat × Nat × Nat)) (ws ws2 : va_W) : Prop := ∀ q ∈ L, ∀ i : Nat, q.2.1 ≤ i → i < q.2.2 → gcv ws2 q.1 i = gcv ws q.1 i
end
theorem zci_int {ws : va_W} {o i : Nat} {z : Int32} (h : gcv ws o i = some (.int z)) : zci ws o (i : Int) = z.toInt := by
  unfold zci
  rw [if_pos (by omega), Int.toNat_natCast, h]
theorem zci_long {ws : va_W} {o i : Nat} {z : Int64} (h : gcv ws o i = some (.long z)) : zci ws o (i : Int) = z.toInt := by
  unfold zci
  rw [if_pos (by omega), Int.toNat_natCast, h]
theorem zci_cg {ws ws2 : va_W} {o o2 : Nat} (h : ∀ i : Nat, gcv ws o i = gcv ws2 o2 i) : zci ws o = zci ws2 o2 := by
  funext i
  unfold zci
  rw [h]
theorem zci_pt {ws ws2 : va_W} {o o2 i j : Nat} (h : gcv ws2 o2 j = gcv ws o i) : zci ws2 o2 (j : Int) = zci ws o (i : Int) := by
  unfold zci
  rw [if_pos (by omega), if_pos (by omega), Int.toNat_natCast, Int.toNat_natCast, h]
theorem zCs_md {L : List (Nat × Nat × Nat)} {so : List Nat} {md : aMd} {ws ws2 : va_W} (hm : mdz L so md = true) (hf : fRel so md ws ws2) : zCs L ws ws2 := by
  intro q hq i h0 h1
  have g := List.all_eq_true.mp hm q hq
  split at g
  · rename_i t ht
    refine hf q.1 t i ht (fun r hr w => ?_)
    have g2 := List.all_eq_true.mp g r hr
    rw [w.1, Nat.beq_refl, show Nat.blt r.2.1 q.2.2 = true from Nat.ble_eq_true_of_le (show r.2.1 + 1 ≤ q.2.2 by omega), show Nat.blt q.2.1 r.2.2 = true from Nat.ble_eq_true_of_le (show q.2.1 + 1 ≤ r.2.2 by omega)] at g2
    exact absurd g2 (by decide)
  · cases g
theorem zCs_tr {L : List (Nat × Nat × Nat)} {ws ws1 ws2 : va_W} (h : zCs L ws ws1) (h2 : zCs L ws1 ws2) : zCs L ws ws2 := fun q hq i a b => (h2 q hq i a b).trans (h q hq i a b)
theorem zCs_ap {L M : List (Nat × Nat × Nat)} {ws ws2 : va_W} (h : zCs L ws ws2) (h2 : zCs M ws ws2) : zCs (L ++ M) ws ws2 := fun q hq i a b => (List.mem_append.mp hq).elim (fun z => h q z i a b) (fun z => h2 q z i a b)
theorem zCs_ci {L : List (Nat × Nat × Nat)} {ws ws2 : va_W} (h : zCs L ws ws2) {o lo hi : Nat} (hm : (o, lo, hi) ∈ L) {i : Int} (h0 : (lo : Int) ≤ i) (h1 : i < (hi : Int)) : zci ws2 o i = zci ws o i := by
  have e := zci_pt (h (o, lo, hi) hm i.toNat (by show lo ≤ i.toNat; omega) (by show i.toNat < hi; omega))
  rw [show ((i.toNat : Nat) : Int) = i by omega] at e
  exact e
theorem cNm_cg {f g : Int → Int} {m m2 b : Int} {nm nm2 : Int → Int} (hb : 0 ≤ b) (h : cNm f m nm b) (hm : m2 = m) (hf : ∀ i : Int, 0 ≤ i → i < m → g i = f i) (hn : ∀ i : Int, 0 ≤ i → i < m → nm2 (b + i) = nm (b + i)) : cNm g m2 nm2 b := by
  subst hm
  intro i h0 h1
  have := h i h0 h1
  rw [hf i h0 h1, hn i h0 h1]
  exact this
theorem zAl_cg {ws ws2 : va_W} {T S s0 N n0 T2 S2 t0 N2 m0 : Nat} (hS : ∀ k : Int, 0 ≤ k → k < 5 → zci ws2 S2 ((t0 : Int) + k) = zci ws S ((s0 : Int) + k)) (hN : ∀ i : Int, 0 ≤ i → i < 24 → zci ws2 N2 ((m0 : Int) + i) = zci ws N ((n0 : Int) + i)) (hT : ∀ i : Int, (i = 8 ∨ i = 9) → zci ws2 T2 i = zci ws T i) (h1 : ∀ i : Int, 0 ≤ i → i < 12 → zci ws2 (T2 + 1) i = zci ws (T + 1) i) (h2 : ∀ i : Int, 0 ≤ i → i < 12 → zci ws2 (T2 + 2) i = zci ws (T + 2) i) (h3 : ∀ i : Int, 0 ≤ i → i < 12 → zci ws2 (T2 + 3) i = zci ws (T + 3) i) (h4 : ∀ i : Int, 0 ≤ i → i < 12 → zci ws2 (T2 + 4) i = zci ws (T + 4) i) (h : zAl ws T S s0 N n0) : zAl ws2 T2 S2 t0 N2 m0 := by
  obtain ⟨⟨b0, b1, b2, b3⟩, c, ⟨d1, d2⟩, e0, e1, e2⟩ := h
  have s0' := hS 0 (by decide) (by decide)
  rw [Int.add_zero, Int.add_zero] at s0'
  have s1 := hS 1 (by decide) (by decide)
  have s2 := hS 2 (by decide) (by decide)
  have s3 := hS 3 (by decide) (by decide)
  have s4 := hS 4 (by decide) (by decide)
  unfold zAl
  rw [s0', s1, s2, s3, s4, hT 8 (Or.inl rfl), hT 9 (Or.inr rfl)]
  refine ⟨⟨b0, b1, b2, b3⟩, fun k k0 k1 => ?_, ⟨d1, d2⟩, cNm_cg (by decide) e0 rfl (fun i i0 i1 => h2 i i0 (by omega)) (fun i i0 i1 => ?_), cNm_cg (by decide) e1 rfl (fun i i0 i1 => h3 i i0 (by omega)) (fun i i0 i1 => ?_), cNm_cg (by decide) e2 rfl (fun i i0 i1 => h4 i i0 (by omega)) (fun i i0 i1 => ?_)⟩
  · rw [h1 k k0 (by omega), hS k k0 (by omega)]
    exact c k k0 k1
  · exact hN (0 + i) (by omega) (by omega)
  · exact hN (6 + i) (by omega) (by omega)
  · exact hN (12 + i) (by omega) (by omega)
theorem zAl_cs {ws ws2 : va_W} {L : List (Nat × Nat × Nat)} (h : zCs L ws ws2) {T S s0 N n0 n1 n2 : Nat} (hT : (T, 0, 10) ∈ L) (h1 : (T + 1, 0, 12) ∈ L) (h2 : (T + 2, 0, 12) ∈ L) (h3 : (T + 3, 0, 12) ∈ L) (h4 : (T + 4, 0, 12) ∈ L) (hS : (S, s0, s0 + 5) ∈ L) (hN : (N, n1, n2) ∈ L) (hn : n1 ≤ n0 ∧ n0 + 24 ≤ n2) (g : zAl ws T S s0 N n0) : zAl ws2 T S s0 N n0 :=
  zAl_cg (fun k a b => zCs_ci h hS (by omega) (by omega)) (fun i a b => zCs_ci h hN (by omega) (by omega)) (fun i a => zCs_ci h hT (by omega) (by omega)) (fun i a b => zCs_ci h h1 (by omega) (by omega)) (fun i a b => zCs_ci h h2 (by omega) (by omega)) (fun i a b => zCs_ci h h3 (by omega) (by omega)) (fun i a b => zCs_ci h h4 (by omega) (by omega)) g
theorem zCs_sub {L M : List (Nat × Nat × Nat)} {ws ws2 : va_W} (hm : zcsub M L = true) (h : zCs L ws ws2) : zCs M ws ws2 := by
  intro q hq i h0 h1
  obtain ⟨r, hr, k⟩ := List.any_eq_true.mp (List.all_eq_true.mp hm q hq)
  rw [Bool.and_eq_true, Bool.and_eq_true] at k
  have e := h r hr i (Nat.le_trans (Nat.le_of_ble_eq_true k.2.1) h0) (Nat.lt_of_lt_of_le h1 (Nat.le_of_ble_eq_true k.2.2))
  rw [Nat.eq_of_beq_eq_true k.1] at e
  exact e
theorem zrf_in : (zrfl.all fun q => zclf.any fun r => Nat.beq r.1 q.1 && (Nat.ble r.2.1 q.2.1 && Nat.blt q.2.1 r.2.2)) = true := by decide +kernel
theorem zRf_cf {E : zE} {ws ws2 : va_W} (h : zCs zclf ws ws2) (g : zRf E ws) : zRf E ws2 := by
  intro q hq
  obtain ⟨a, h1, h2⟩ := g q hq
  obtain ⟨r, hr, k⟩ := List.any_eq_true.mp (List.all_eq_true.mp zrf_in q hq)
  rw [Bool.and_eq_true, Bool.and_eq_true] at k
  have e := h r hr q.2.1 (Nat.le_of_ble_eq_true k.2.1) (Nat.le_of_ble_eq_true k.2.2)
  rw [Nat.eq_of_beq_eq_true k.1] at e
  exact ⟨a, h1, e.trans h2⟩
theorem zRf_cs {E : zE} {ws ws2 : va_W} (h : zCs zclc ws ws2) (g : zRf E ws) : zRf E ws2 := zRf_cf (zCs_sub (by decide +kernel) h) g
/-- the class's cells are the same, the reference's values too -/
theorem zIm_v {ws ws2 : va_W} {L : List (Nat × Nat × Nat)} (h : zCs L ws ws2) (hL : zcsub [(0, 0, 17), (129, 0, 10), (130, 0, 12), (131, 0, 12), (132, 0, 12), (133, 0, 12), (148, 0, 10), (149, 0, 12), (150, 0, 12), (151, 0, 12), (152, 0, 12)] L = true) (h0 : ∀ i : Int, 0 ≤ i → i < 5 → zci ws2 191 i = zci ws 191 i) (h4 : ∀ i : Int, 402 ≤ i → i < 407 → zci ws2 191 i = zci ws 191 i) (h2 : ∀ i : Int, 0 ≤ i → i < 48 → zci ws2 192 i = zci ws 192 i) (h3 : ∀ i : Int, 0 ≤ i → i < 2 → zci ws2 193 i = zci ws 193 i) (g : zIm ws) : zIm ws2 := by
  have h := zCs_sub hL h
  obtain ⟨k, a, b⟩ := g
  have e16 : zci ws2 0 16 = zci ws 0 16 := zCs_ci h (o := 0) (lo := 0) (hi := 17) (by decide) (by decide) (by decide)
  unfold zIm
  rw [e16, h3 0 (by decide) (by decide), h3 1 (by decide) (by decide)]
  exact ⟨k, fun q => zAl_cg (fun k a b => h0 _ (by omega) (by omega)) (fun i a b => h2 _ (by omega) (by omega)) (fun i a => zCs_ci h (lo := 0) (hi := 10) (by decide) (by omega) (by omega)) (fun i a b => zCs_ci h (lo := 0) (hi := 12) (by decide) (by omega) (by omega)) (fun i a b => zCs_ci h (lo := 0) (hi := 12) (by decide) (by omega) (by omega)) (fun i a b => zCs_ci h (lo := 0) (hi := 12) (by decide) (by omega) (by omega)) (fun i a b => zCs_ci h (lo := 0) (hi := 12) (by decide) (by omega) (by omega)) (a q), fun q => zAl_cg (fun k a b => h4 _ (by omega) (by omega)) (fun i a b => h2 _ (by omega) (by omega)) (fun i a => zCs_ci h (lo := 0) (hi := 10) (by decide) (by omega) (by omega)) (fun i a b => zCs_ci h (lo := 0) (hi := 12) (by decide) (by omega) (by omega)) (fun i a b => zCs_ci h (lo := 0) (hi := 12) (by decide) (by omega) (by omega)) (fun i a b => zCs_ci h (lo := 0) (hi := 12) (by decide) (by omega) (by omega)) (fun i a b => zCs_ci h (lo := 0) (hi := 12) (by decide) (by omega) (by omega)) (b q)⟩
theorem zTr_v {E : zE} {ws ws2 : va_W} (h : zCs zclc ws ws2) (hs : ∀ i : Int, 0 ≤ i → i < 5 → zci ws2 169 i = zci ws 169 i) (hn : ∀ i : Int, 0 ≤ i → i < 24 → zci ws2 172 i = zci ws 172 i) (h0 : ∀ i : Int, 0 ≤ i → i < 5 → zci ws2 191 i = zci ws 191 i) (h4 : ∀ i : Int, 402 ≤ i → i < 407 → zci ws2 191 i = zci ws 191 i) (h2 : ∀ i : Int, 0 ≤ i → i < 48 → zci ws2 192 i = zci ws 192 i) (h3 : ∀ i : Int, 0 ≤ i → i < 2 → zci ws2 193 i = zci ws 193 i) (hk : zKd ws2) (g : zTr E ws) : zTr E ws2 :=
  ⟨zRf_cs h g.1, zAl_cg (fun k a b => hs _ (by omega) (by omega)) (fun i a b => hn _ (by omega) (by omega)) (fun i a => zCs_ci h (lo := 0) (hi := 10) (by decide) (by omega) (by omega)) (fun i a b => zCs_ci h (lo := 0) (hi := 12) (by decide) (by omega) (by omega)) (fun i a b => zCs_ci h (lo := 0) (hi := 12) (by decide) (by omega) (by omega)) (fun i a b => zCs_ci h (lo := 0) (hi := 12) (by decide) (by omega) (by omega)) (fun i a b => zCs_ci h (lo := 0) (hi := 12) (by decide) (by omega) (by omega)) g.2.1, zIm_v h (by decide +kernel) h0 h4 h2 h3 g.2.2.1, hk⟩
theorem zTr_cs {E : zE} {ws ws2 : va_W} (h : zCs zcl ws ws2) (g : zTr E ws) : zTr E ws2 :=
  zTr_v (zCs_sub (by decide +kernel) h) (fun i a b => zCs_ci h (lo := 0) (hi := 5) (by decide) a b) (fun i a b => zCs_ci h (lo := 0) (hi := 24) (by decide) a b) (fun i a b => zCs_ci h (lo := 0) (hi := 5) (by decide) a b) (fun i a b => zCs_ci h (lo := 402) (hi := 407) (by decide) a b) (fun i a b => zCs_ci h (lo := 0) (hi := 48) (by decide) a b) (fun i a b => zCs_ci h (lo := 0) (hi := 2) (by decide) a b) (by
    unfold zKd
    rw [show zci ws2 1 2 = zci ws 1 2 from zCs_ci h (o := 1) (lo := 2) (hi := 3) (by decide) (by decide) (by decide), show zci ws2 167 15 = zci ws 167 15 from zCs_ci h (o := 167) (lo := 15) (hi := 16) (by decide) (by decide) (by decide)]
    exact g.2.2.2) g
theorem zTr_fr {E : zE} {md : aMd} {ws ws2 : va_W} (hm : mdz zcl zso0 md = true) (hE : zso E = zso0) (hf : fRel (zso E) md ws ws2) (g : zTr E ws) : zTr E ws2 := by
  rw [hE] at hf
  exact zTr_cs (zCs_md hm hf) g
theorem zTr_fc {E : zE} {md : aMd} {ws ws2 : va_W} (hm : mdz zcl zsoc md = true) (hf : fRel zsoc md ws ws2) (g : zTr E ws) : zTr E ws2 := zTr_cs (zCs_md hm hf) g
/-- a cell that leads to a thing -/
theorem zRf_at {E : zE} {ws : va_W} (g : zRf E ws) {o i o2 : Nat} (hm : (o, i, o2) ∈ zrfl) : ∃ a : Nat, (zad E)[o2]? = some a ∧ gcv ws o i = some (.ref a) := g _ hm
theorem mdz_ok : mdz zcl zso0 [(7, 1, 2)] = true := by decide +kernel
