/-! Integer.bitCount: of twenty bits, exactly -/
section PCN
theorem pc_land {a b c d : Nat} (ha : a < 256) (hc : c < 256) : (a + 256 * b) &&& (c + 256 * d) = (a &&& c) + 256 * (b &&& d) := by
  have hl : a &&& c < 256 := Nat.lt_of_le_of_lt Nat.and_le_left ha
  refine Nat.eq_of_testBit_eq fun i => ?_
  rw [Nat.testBit_and, Nat.add_comm a, Nat.add_comm c, Nat.add_comm (a &&& c), show 256 = 2 ^ 8 from rfl, Nat.testBit_two_pow_mul_add _ (by exact ha), Nat.testBit_two_pow_mul_add _ (by exact hc), Nat.testBit_two_pow_mul_add _ (by exact hl)]
  by_cases h : i < 8
  · simp only [h, if_true, Nat.testBit_and]
  · simp only [h, if_false, Nat.testBit_and]
def pc1 (n : Nat) : Nat := n - (n / 2 &&& 349525)
def pc2 (n : Nat) : Nat := (n &&& 209715) + (n / 4 &&& 209715)
def pc3 (n : Nat) : Nat := n + n / 16 &&& 986895
def pcn (n : Nat) : Nat → Nat
  | 0 => 0
  | k + 1 => pcn n k + (n / 2 ^ k) % 2
theorem pk_a : ((List.range 256).all fun a => (decide ((a / 2 &&& 85) ≤ a) && (decide ((a / 2 + 128 &&& 85) = (a / 2 &&& 85)) && (decide (pc1 a = a - (a / 2 &&& 85)) && (decide ((a / 4 &&& 51) = (a / 4 + 64 &&& 51)) && (decide ((a / 4 &&& 51) = (a / 4 + 128 &&& 51)) && decide ((a / 4 &&& 51) = (a / 4 + 192 &&& 51)))))))) = true := by decide +kernel
theorem pk_b : ((List.range 256).all fun a => decide (pc2 a = (a &&& 51) + (a / 4 &&& 51))) = true := by decide +kernel
theorem pk_c : ((List.range 256).all fun a => (decide (pc2 (pc1 a) + pc2 (pc1 a) / 16 + 64 < 256) && (List.range 5).all fun e => decide ((pc2 (pc1 a) + pc2 (pc1 a) / 16 + 16 * e &&& 15) = pc3 (pc2 (pc1 a)))) && decide (pc3 (pc2 (pc1 a)) = pcn a 8)) = true := by decide +kernel
theorem pk_d : ((List.range 4096).all fun b => decide ((b / 2 &&& 1365) ≤ b) && (decide (pc1 b = b - (b / 2 &&& 1365)) && (decide (pc2 (pc1 b) % 16 < 5) && (decide (pc2 b = (b &&& 819) + (b / 4 &&& 819)) && decide (pc3 (pc2 (pc1 b)) % 256 + pc3 (pc2 (pc1 b)) / 256 = pcn b 12 ∧ pc3 (pc2 (pc1 b)) % 256 < 9 ∧ pc3 (pc2 (pc1 b)) / 256 < 5))))) = true := by decide +kernel
theorem pk_e : ((List.range 4096).all fun b => decide ((pc2 (pc1 b) + pc2 (pc1 b) / 16 &&& 3855) = pc3 (pc2 (pc1 b)))) = true := by decide +kernel
theorem pk_g : ((List.range 4096).all fun b => decide (pc2 (pc1 b) < 4096)) = true := by decide +kernel
theorem pk_f : ((List.range 9).all fun p => (List.range 9).all fun q => (List.range 5).all fun r => decide (((p + 256 * (q + 256 * r)) + (p + 256 * (q + 256 * r)) / 256 + ((p + 256 * (q + 256 * r)) + (p + 256 * (q + 256 * r)) / 256) / 65536 &&& 63) = p + (q + r))) = true := by decide +kernel
theorem pc_1 {a b : Nat} (ha : a < 256) (hb : b < 4096) : pc1 (a + 256 * b) = pc1 a + 256 * pc1 b ∧ pc1 a ≤ a ∧ pc1 b ≤ b := by
  have g := List.all_eq_true.mp pk_a a (List.mem_range.mpr ha)
  have g2 := List.all_eq_true.mp pk_d b (List.mem_range.mpr hb)
  simp only [Bool.and_eq_true, decide_eq_true_iff] at g g2
  have e : (a + 256 * b) / 2 = (a / 2 + 128 * (b % 2)) + 256 * (b / 2) := by omega
  have e2 : (a / 2 + 128 * (b % 2) &&& 85) = (a / 2 &&& 85) := by
    rcases (show b % 2 = 0 ∨ b % 2 = 1 by omega) with h | h
    · rw [h, Nat.mul_zero, Nat.add_zero]
    · rw [h]; exact g.2.1
  have e3 : ((a + 256 * b) / 2 &&& 349525) = (a / 2 &&& 85) + 256 * (b / 2 &&& 1365) := by
    rw [e, show (349525 : Nat) = 85 + 256 * 1365 from rfl, pc_land (by omega) (by omega), e2]
  refine ⟨?_, by rw [g.2.2.1]; omega, by rw [g2.2.1]; omega⟩
  rw [g.2.2.1, g2.2.1]
  unfold pc1
  rw [e3]
  omega
theorem pc_2 {a b : Nat} (ha : a < 256) (hb : b < 4096) : pc2 (a + 256 * b) = pc2 a + 256 * pc2 b := by
  have g := List.all_eq_true.mp pk_a a (List.mem_range.mpr ha)
  have g3 := List.all_eq_true.mp pk_b a (List.mem_range.mpr ha)
  have g2 := List.all_eq_true.mp pk_d b (List.mem_range.mpr hb)
  simp only [Bool.and_eq_true, decide_eq_true_iff] at g g2 g3
  have e : (a + 256 * b) / 4 = (a / 4 + 64 * (b % 4)) + 256 * (b / 4) := by omega
  have e2 : (a / 4 + 64 * (b % 4) &&& 51) = (a / 4 &&& 51) := by
    rcases (show b % 4 = 0 ∨ b % 4 = 1 ∨ b % 4 = 2 ∨ b % 4 = 3 by omega) with h | h | h | h
    · rw [h, Nat.mul_zero, Nat.add_zero]
    · rw [h]; exact g.2.2.2.1.symm
    · rw [h]; exact g.2.2.2.2.1.symm
    · rw [h]; exact g.2.2.2.2.2.symm
  rw [g3, g2.2.2.2.1]
  unfold pc2
  rw [e, show (209715 : Nat) = 51 + 256 * 819 from rfl, pc_land (by omega) (by omega), pc_land (by omega) (by omega), e2]
  omega
theorem pc_3 {a b : Nat} (ha : a < 256) (hb : b < 4096) : pc3 (pc2 (pc1 (a + 256 * b))) = pcn a 8 + 256 * pc3 (pc2 (pc1 b)) := by
  obtain ⟨h1, h2, h3⟩ := pc_1 ha hb
  have g := List.all_eq_true.mp pk_c a (List.mem_range.mpr ha)
  have g2 := List.all_eq_true.mp pk_d b (List.mem_range.mpr hb)
  have g4 := List.all_eq_true.mp pk_e b (List.mem_range.mpr hb)
  simp only [Bool.and_eq_true, decide_eq_true_iff] at g g2 g4
  rw [h1, pc_2 (by omega) (by omega)]
  have g5 := List.all_eq_true.mp g.1.2 (pc2 (pc1 b) % 16) (List.mem_range.mpr g2.2.2.1)
  have g5 := decide_eq_true_iff.mp g5
  rw [← g.2, ← g4, ← g5]
  unfold pc3
  have e : (pc2 (pc1 a) + 256 * pc2 (pc1 b)) + (pc2 (pc1 a) + 256 * pc2 (pc1 b)) / 16 = (pc2 (pc1 a) + pc2 (pc1 a) / 16 + 16 * (pc2 (pc1 b) % 16)) + 256 * (pc2 (pc1 b) + pc2 (pc1 b) / 16) := by omega
  have h16 := g2.2.2.1
  have h256 := g.1.1
  rw [e, show (986895 : Nat) = 15 + 256 * 3855 from rfl, pc_land (by omega) (by omega)]
theorem pcn_at {n : Nat} : ∀ k : Nat, pcn n (k + 8) = pcn (n % 256) 8 + pcn (n / 256) k
  | 0 => by
    show pcn n 8 = pcn (n % 256) 8 + 0
    unfold pcn pcn pcn pcn pcn pcn pcn pcn pcn
    omega
  | k + 1 => by
    have e := pcn_at (n := n) k
    show pcn n (k + 8) + (n / 2 ^ (k + 8)) % 2 = pcn (n % 256) 8 + (pcn (n / 256) k + (n / 256 / 2 ^ k) % 2)
    rw [e, Nat.div_div_eq_div_mul, show 256 * 2 ^ k = 2 ^ (k + 8) by rw [Nat.pow_add, Nat.mul_comm]]
    omega
/-- all five rounds -/
theorem pc_all {n : Nat} (hn : n < 1048576) : ((pc3 (pc2 (pc1 n)) + pc3 (pc2 (pc1 n)) / 256) + (pc3 (pc2 (pc1 n)) + pc3 (pc2 (pc1 n)) / 256) / 65536 &&& 63) = pcn n 20 := by
  have ha : n % 256 < 256 := Nat.mod_lt _ (by decide)
  have hb : n / 256 < 4096 := by omega
  have en : n % 256 + 256 * (n / 256) = n := by omega
  have e3 := pc_3 ha hb
  rw [en] at e3
  have e20 := pcn_at (n := n) 12
  have g := List.all_eq_true.mp pk_c (n % 256) (List.mem_range.mpr ha)
  have g2 := List.all_eq_true.mp pk_d (n / 256) (List.mem_range.mpr hb)
  simp only [Bool.and_eq_true, decide_eq_true_iff] at g g2
  have h8 : pcn (n % 256) 8 < 9 := by
    unfold pcn pcn pcn pcn pcn pcn pcn pcn pcn
    omega
  obtain ⟨r1, r2, r3⟩ := g2.2.2.2.2
  generalize pc3 (pc2 (pc1 (n / 256))) = m at e3 r1 r2 r3
  have k := List.all_eq_true.mp (List.all_eq_true.mp (List.all_eq_true.mp pk_f (pcn (n % 256) 8) (List.mem_range.mpr h8)) (m % 256) (List.mem_range.mpr r2)) (m / 256) (List.mem_range.mpr r3)
  have k := decide_eq_true_iff.mp k
  rw [show m % 256 + 256 * (m / 256) = m by omega, ← e3] at k
  rw [k, e20, ← r1]
theorem p32_and {a b : Nat} : Int32.ofNat a &&& Int32.ofNat b = Int32.ofNat (a % 4294967296 &&& b % 4294967296) := by
  rw [← Int32.toBitVec_inj, Int32.toBitVec_and]
  refine BitVec.eq_of_toNat_eq ?_
  rw [BitVec.toNat_and]
  show a % 4294967296 &&& b % 4294967296 = (a % 4294967296 &&& b % 4294967296) % 4294967296
  have : a % 4294967296 &&& b % 4294967296 ≤ a % 4294967296 := Nat.and_le_left
  exact (Nat.mod_eq_of_lt (Nat.lt_of_le_of_lt this (Nat.mod_lt _ (by decide)))).symm
theorem p32_add {a b : Nat} : Int32.ofNat a + Int32.ofNat b = Int32.ofNat (a + b) := by
  rw [← Int32.toBitVec_inj, Int32.toBitVec_add]
  refine BitVec.eq_of_toNat_eq ?_
  rw [BitVec.toNat_add]
  show (a % 4294967296 + b % 4294967296) % 4294967296 = (a + b) % 4294967296
  omega
theorem p32_sub {a b : Nat} (h : b ≤ a) : Int32.ofNat a - Int32.ofNat b = Int32.ofNat (a - b) := by
  rw [← Int32.toBitVec_inj, Int32.toBitVec_sub]
  refine BitVec.eq_of_toNat_eq ?_
  rw [BitVec.toNat_sub]
  show (4294967296 - b % 4294967296 + a % 4294967296) % 4294967296 = (a - b) % 4294967296
  omega
theorem p32_shr {a k : Nat} (ha : a < 4294967296) (hk : k < 32) : ((Int32.ofNat a).toUInt32 >>> ((Int32.ofNat k).toUInt32 &&& Int32.toUInt32 31)).toInt32 = Int32.ofNat (a / 2 ^ k) := by
  rw [← Int32.toBitVec_inj]
  refine BitVec.eq_of_toNat_eq ?_
  show ((Int32.ofNat a).toUInt32 >>> ((Int32.ofNat k).toUInt32 &&& Int32.toUInt32 31)).toNat = (a / 2 ^ k) % 4294967296
  rw [UInt32.toNat_shiftRight, UInt32.toNat_and]
  show (a % 4294967296) >>> ((k % 4294967296 &&& 31) % 32) = _
  have e : k % 4294967296 &&& 31 = k := by
    rw [Nat.mod_eq_of_lt (by omega), show (31 : Nat) = 2 ^ 5 - 1 from rfl, Nat.and_two_pow_sub_one_eq_mod, Nat.mod_eq_of_lt (by omega)]
  rw [e, Nat.mod_eq_of_lt hk, Nat.mod_eq_of_lt ha, Nat.shiftRight_eq_div_pow, Nat.mod_eq_of_lt (Nat.lt_of_le_of_lt (Nat.div_le_self _ _) ha)]
/-- what bitCount makes of it -/
def pcz (z : Int32) : Int32 :=
  let u : Int32 → Int32 → Int32 := fun a b => (a.toUInt32 >>> (b.toUInt32 &&& Int32.toUInt32 31)).toInt32
  let z1 := z - (u z (Int32.ofInt 1) &&& Int32.ofNat 1431655765)
  let z2 := (z1 &&& Int32.ofNat 858993459) + (u z1 (Int32.ofInt 2) &&& Int32.ofNat 858993459)
  let z3 := (z2 + u z2 (Int32.ofInt 4)) &&& Int32.ofNat 252645135
  let z4 := z3 + u z3 (Int32.ofInt 8)
  let z5 := z4 + u z4 (Int32.ofInt 16)
  z5 &&& Int32.ofInt 63
theorem pm_20 {n m k : Nat} (hn : n < 2 ^ 20) (hm : m % 2 ^ 20 = k) : n &&& m = n &&& k := by
  refine Nat.eq_of_testBit_eq fun i => ?_
  rw [Nat.testBit_and, Nat.testBit_and, ← hm, Nat.testBit_mod_two_pow]
  by_cases h : i < 20
  · simp [h]
  · rw [Nat.testBit_lt_two_pow (Nat.lt_of_lt_of_le hn (Nat.pow_le_pow_right (by decide) (by omega)))]
    rfl
theorem pcz_n {n : Nat} (hn : n < 1048576) : pcz (Int32.ofNat n) = Int32.ofNat (pcn n 20) := by
  have ha : n % 256 < 256 := Nat.mod_lt _ (by decide)
  have hb : n / 256 < 4096 := by omega
  have en : n % 256 + 256 * (n / 256) = n := by omega
  have h1 : pc1 n ≤ n := by unfold pc1; omega
  have hl : (n / 2 &&& 349525) ≤ n := by have : (n / 2 &&& 349525) ≤ n / 2 := Nat.and_le_left; omega
  have h2 : pc2 (pc1 n) < 1048576 := by
    have e := pc_1 ha hb
    have e2 := pc_2 (a := pc1 (n % 256)) (b := pc1 (n / 256)) (by omega) (by omega)
    have g := List.all_eq_true.mp pk_c (n % 256) (List.mem_range.mpr ha)
    simp only [Bool.and_eq_true, decide_eq_true_iff] at g
    rw [en] at e
    have g2 := List.all_eq_true.mp pk_g (n / 256) (List.mem_range.mpr hb)
    have g2 := decide_eq_true_iff.mp g2
    rw [e.1, e2]
    have := g.1.1
    omega
  have h3 : pc3 (pc2 (pc1 n)) ≤ 986895 := Nat.and_le_right
  have k1 : n / 2 &&& 1431655765 = n / 2 &&& 349525 := pm_20 (by omega) (by decide)
  have k2 : pc1 n &&& 858993459 = pc1 n &&& 209715 := pm_20 (by omega) (by decide)
  have k3 : pc1 n / 4 &&& 858993459 = pc1 n / 4 &&& 209715 := pm_20 (by omega) (by decide)
  have k4 : pc2 (pc1 n) + pc2 (pc1 n) / 16 &&& 252645135 = pc3 (pc2 (pc1 n)) := by
    have e : pc2 (pc1 n) + pc2 (pc1 n) / 16 < 2 ^ 21 := by omega
    unfold pc3
    refine Nat.eq_of_testBit_eq fun i => ?_
    rw [Nat.testBit_and, Nat.testBit_and]
    by_cases h : i < 21
    · rw [show Nat.testBit 252645135 i = Nat.testBit 986895 i from ?_]
      have : ∀ i, i < 21 → Nat.testBit 252645135 i = Nat.testBit 986895 i := by decide
      exact this i h
    · rw [Nat.testBit_lt_two_pow (Nat.lt_of_lt_of_le e (Nat.pow_le_pow_right (by decide) (by omega)))]
      rfl
  have hs : ∀ (a k : Nat) (i : Int), a < 4294967296 → k < 32 → i = (k : Int) → ((Int32.ofNat a).toUInt32 >>> ((Int32.ofInt i).toUInt32 &&& Int32.toUInt32 31)).toInt32 = Int32.ofNat (a / 2 ^ k) := fun a k i x y e => by
    subst e
    exact p32_shr x y
  unfold pcz
  dsimp only
  rw [hs n 1 1 (by omega) (by decide) rfl, p32_and, Nat.mod_eq_of_lt (a := n / 2 ^ 1) (by omega), show n / 2 ^ 1 = n / 2 from rfl, show 1431655765 % 4294967296 = 1431655765 from rfl, k1, p32_sub hl, show n - (n / 2 &&& 349525) = pc1 n from rfl]
  rw [hs (pc1 n) 2 2 (by omega) (by decide) rfl, p32_and, p32_and, Nat.mod_eq_of_lt (a := pc1 n) (by omega), Nat.mod_eq_of_lt (a := pc1 n / 2 ^ 2) (by omega), show pc1 n / 2 ^ 2 = pc1 n / 4 from rfl, show 858993459 % 4294967296 = 858993459 from rfl, k2, k3, p32_add, show (pc1 n &&& 209715) + (pc1 n / 4 &&& 209715) = pc2 (pc1 n) from rfl]
  rw [hs (pc2 (pc1 n)) 4 4 (by omega) (by decide) rfl, p32_add, p32_and, Nat.mod_eq_of_lt (a := pc2 (pc1 n) + pc2 (pc1 n) / 2 ^ 4) (by omega), show pc2 (pc1 n) / 2 ^ 4 = pc2 (pc1 n) / 16 from rfl, show 252645135 % 4294967296 = 252645135 from rfl, k4]
  rw [hs (pc3 (pc2 (pc1 n))) 8 8 (by omega) (by decide) rfl, p32_add, show pc3 (pc2 (pc1 n)) / 2 ^ 8 = pc3 (pc2 (pc1 n)) / 256 from rfl]
  rw [hs (pc3 (pc2 (pc1 n)) + pc3 (pc2 (pc1 n)) / 256) 16 16 (by omega) (by decide) rfl, p32_add, show (pc3 (pc2 (pc1 n)) + pc3 (pc2 (pc1 n)) / 256) / 2 ^ 16 = (pc3 (pc2 (pc1 n)) + pc3 (pc2 (pc1 n)) / 256) / 65536 from rfl]
  rw [show Int32.ofInt 63 = Int32.ofNat 63 from rfl, p32_and, Nat.mod_eq_of_lt (a := (pc3 (pc2 (pc1 n)) + pc3 (pc2 (pc1 n)) / 256) + (pc3 (pc2 (pc1 n)) + pc3 (pc2 (pc1 n)) / 256) / 65536) (by omega), show 63 % 4294967296 = 63 from rfl, pc_all hn]
theorem pcz_q {z : Int32} (h : ∀ k : Int, 20 ≤ k → k ≤ 31 → tb z.toInt k = false) : (pcz z).toInt = qpc z.toInt 20 := by
  have hb : ∀ i : Nat, tb z.toInt (i : Int) = z.toBitVec.toNat.testBit i := fun i => by
    unfold tb bt
    rw [Int32.ofInt_toInt]
    rfl
  have hn : z.toBitVec.toNat < 1048576 := by
    refine Nat.lt_pow_two_of_testBit (n := 20) _ (fun i hi => ?_)
    by_cases h32 : i < 32
    · rw [← hb i]
      exact h (i : Int) (by omega) (by omega)
    · exact Nat.testBit_lt_two_pow (Nat.lt_of_lt_of_le z.toBitVec.isLt (Nat.pow_le_pow_right (by decide) (by omega)))
  have ez : z = Int32.ofNat z.toBitVec.toNat := by
    rw [← Int32.toBitVec_inj]
    exact BitVec.eq_of_toNat_eq (Nat.mod_eq_of_lt z.toBitVec.isLt).symm
  have hq : ∀ k : Nat, qpc z.toInt k = (pcn z.toBitVec.toNat k : Int) := fun k => by
    induction k with
    | zero => rfl
    | succ k ih =>
      show qpc z.toInt k + (if tb z.toInt (k : Int) = true then 1 else 0) = ((pcn z.toBitVec.toNat k + (z.toBitVec.toNat / 2 ^ k) % 2 : Nat) : Int)
      rw [ih, hb k, Nat.testBit_eq_decide_div_mod_eq]
      by_cases e : z.toBitVec.toNat / 2 ^ k % 2 = 1
      · rw [if_pos (decide_eq_true e), e]; omega
      · rw [if_neg (fun q => e (of_decide_eq_true q))]
        have : z.toBitVec.toNat / 2 ^ k % 2 = 0 := by omega
        rw [this]; omega
  have hb20 : ∀ k : Nat, pcn z.toBitVec.toNat k ≤ k := fun k => by
    induction k with
    | zero => exact Nat.le_refl _
    | succ k ih =>
      show pcn z.toBitVec.toNat k + (z.toBitVec.toNat / 2 ^ k) % 2 ≤ k + 1
      omega
  have h20 := hb20 20
  rw [hq 20]
  conv => lhs; rw [ez, pcz_n hn]
  exact Int32.toInt_ofNat_of_lt (by omega)
end PCN
