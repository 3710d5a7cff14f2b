/-! bits (rows of the kit's laws, pasted), and bits of ints -/
def bt (x : Int32) (i : Nat) : Bool := x.toBitVec.getLsbD i
theorem b_ext {x y : Int32} (h : ∀ i, i < 32 → bt x i = bt y i) : x = y := Int32.toBitVec_inj.mp (BitVec.eq_of_getLsbD_eq (fun i hi => h i hi))
theorem b_or (x y : Int32) (i : Nat) : bt (x ||| y) i = (bt x i || bt y i) := by unfold bt; rw [Int32.toBitVec_or, BitVec.getLsbD_or]
theorem b_and (x y : Int32) (i : Nat) : bt (x &&& y) i = (bt x i && bt y i) := by unfold bt; rw [Int32.toBitVec_and, BitVec.getLsbD_and]
theorem b_xor (x y : Int32) (i : Nat) : bt (x ^^^ y) i = (bt x i ^^ bt y i) := by unfold bt; rw [Int32.toBitVec_xor, BitVec.getLsbD_xor]
theorem b_big {x : Int32} {i : Nat} (h : 32 ≤ i) : bt x i = false := BitVec.getLsbD_of_ge _ _ h
theorem b_m1 : ∀ i, i < 32 → bt (-1) i = true := by decide +kernel
theorem b_0 (i : Nat) : bt 0 i = false := BitVec.getLsbD_zero
theorem s_l : ∀ n, n < 32 → ((nI n &&& 31).toBitVec.smod 32).toNat = n := by decide +kernel
theorem b_shl (n : Nat) (hn : n < 32) (x : Int32) {i : Nat} (hi : i < 32) : bt (x <<< (nI n &&& 31)) i = (decide (n ≤ i) && bt x (i - n)) := by
  unfold bt
  rw [Int32.toBitVec_shiftLeft]
  show (x.toBitVec <<< ((nI n &&& 31).toBitVec.smod 32).toNat).getLsbD i = _
  rw [s_l n hn, BitVec.getLsbD_shiftLeft]
  rcases Nat.lt_or_ge i n with h | h
  · simp [h, Nat.not_le.mpr h]
  · simp [hi, h, Nat.not_lt.mpr h]
theorem b_sshr (n : Nat) (hn : n < 32) (x : Int32) {i : Nat} (hi : i < 32) : bt (x >>> (nI n &&& 31)) i = if n + i < 32 then bt x (n + i) else bt x 31 := by
  unfold bt
  rw [Int32.toBitVec_shiftRight]
  show (x.toBitVec.sshiftRight ((nI n &&& 31).toBitVec.smod 32).toNat).getLsbD i = _
  rw [s_l n hn, BitVec.getLsbD_sshiftRight, BitVec.msb_eq_getLsbD_last]
  simp [hi]
def tb (x k : Int) : Bool := bt (Int32.ofInt x) k.toNat
theorem ofI_nI {k : Int} (h : 0 ≤ k) : Int32.ofInt k = nI k.toNat := by
  obtain ⟨n, rfl⟩ := Int.eq_ofNat_of_zero_le h
  rfl
theorem tb_or (x y k : Int) : tb (vor x y) k = (tb x k || tb y k) := by
  unfold tb vor
  rw [Int32.ofInt_toInt, b_or]
theorem tb_and (x y k : Int) : tb (vand x y) k = (tb x k && tb y k) := by
  unfold tb vand
  rw [Int32.ofInt_toInt, b_and]
theorem tb_xor (x y k : Int) : tb (vxor x y) k = (tb x k ^^ tb y k) := by
  unfold tb vxor
  rw [Int32.ofInt_toInt, b_xor]
theorem bt_1 : ∀ i, i < 32 → bt 1 i = decide (i = 0) := by decide +kernel
theorem tb_0 (k : Int) : tb 0 k = false := b_0 _
theorem tb_m1 {k : Int} (h : k ≤ 31) : tb (-1) k = true := b_m1 _ (by omega)
theorem tb_shl {j k : Int} (h0 : 0 ≤ j) (h1 : j ≤ 31) (h2 : 0 ≤ k) (h3 : k ≤ 31) : tb (vshl 1 j) k = decide (k = j) := by
  unfold tb vshl
  rw [Int32.ofInt_toInt, ofI_nI h0, b_shl _ (by omega) _ (by omega)]
  show (decide (j.toNat ≤ k.toNat) && bt 1 (k.toNat - j.toNat)) = _
  rw [bt_1 _ (by omega), Bool.eq_iff_iff]
  simp only [Bool.and_eq_true, decide_eq_true_eq]
  omega
theorem tb_bit {x k : Int} (h0 : 0 ≤ k) (h1 : k ≤ 31) : vand (vshr x k) 1 = if tb x k = true then 1 else 0 := by
  have key : Int32.ofInt (vshr x k) &&& Int32.ofInt 1 = if tb x k = true then 1 else 0 := by
    refine b_ext (fun i hi => ?_)
    have e1 : bt (Int32.ofInt 1) i = decide (i = 0) := bt_1 i hi
    rw [b_and, e1]
    by_cases hi0 : i = 0
    · subst hi0
      unfold vshr
      rw [Int32.ofInt_toInt, ofI_nI h0, b_sshr _ (by omega) _ (by omega), if_pos (by omega)]
      unfold tb
      rw [Nat.add_zero, decide_eq_true rfl, Bool.and_true]
      cases hb : bt (Int32.ofInt x) k.toNat with
      | true => rw [if_pos rfl]; decide
      | false => rw [if_neg Bool.false_ne_true]; decide
    · rw [decide_eq_false hi0, Bool.and_false]
      by_cases hc : tb x k = true
      · rw [if_pos hc, bt_1 i hi, decide_eq_false hi0]
      · rw [if_neg hc, b_0]
  show (Int32.ofInt (vshr x k) &&& Int32.ofInt 1).toInt = _
  rw [key]
  by_cases hc : tb x k = true
  · rw [if_pos hc, if_pos hc]; rfl
  · rw [if_neg hc, if_neg hc]; rfl
theorem tb_set {x j k : Int} (h0 : 0 ≤ j) (h1 : j ≤ 31) (h2 : 0 ≤ k) (h3 : k ≤ 31) : tb (vor x (vshl 1 j)) k = (tb x k || decide (k = j)) := by rw [tb_or, tb_shl h0 h1 h2 h3]
theorem tb_ne {x : Int} (h0 : -2147483648 ≤ x) (h1 : x ≤ 2147483647) (h : ¬ x = 0) : ∃ k : Int, 0 ≤ k ∧ k ≤ 31 ∧ tb x k = true := by
  by_cases hc : ∃ k : Int, 0 ≤ k ∧ k ≤ 31 ∧ tb x k = true
  · exact hc
  · exfalso
    apply h
    have e : Int32.ofInt x = 0 := b_ext (fun i hi => by
      rw [b_0]
      cases hb : bt (Int32.ofInt x) i with
      | false => rfl
      | true => exact absurd ⟨(i : Int), by omega, by omega, hb⟩ hc)
    have e2 := congrArg Int32.toInt e
    rw [Int32.toInt_ofInt_of_le (by omega) (by omega)] at e2
    exact e2
