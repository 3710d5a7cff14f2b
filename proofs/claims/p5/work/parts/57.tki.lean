/-! LONGS AND OCTETS -/
theorem l_nat {N : Nat} (h : N < 9223372036854775808) : (Int64.ofNat N).toInt = (N : Int) := Int64.toInt_ofNat_of_lt (by omega)
theorem l_w8 {W C : Nat} (hW : W < 281474976710656) (hC : C < 256) : vlor (vlsh (W : Int) 8) (C : Int) = (W : Int) * 256 + (C : Int) := by
  unfold vlor vlsh
  rw [Int64.ofInt_toInt]
  have e : (Int64.ofInt (W : Int) <<< ((Int32.ofInt 8).toInt64 &&& 63) ||| Int64.ofInt (C : Int)) = Int64.ofNat (W * 256 + C) := by
    apply Int64.toBitVec.inj
    apply BitVec.eq_of_toNat_eq
    have e8 : ((Int32.ofInt 8).toInt64 &&& 63) = 8 := rfl
    rw [e8]
    have h1 : (Int64.ofInt (W : Int)).toBitVec = BitVec.ofNat 64 W := rfl
    have h2 : (Int64.ofInt (C : Int)).toBitVec = BitVec.ofNat 64 C := rfl
    have h3 : (Int64.ofInt (W : Int) <<< (8 : Int64)).toBitVec = (Int64.ofInt (W : Int)).toBitVec <<< 8 := rfl
    have h4 : (Int64.ofInt (W : Int) <<< (8 : Int64) ||| Int64.ofInt (C : Int)).toBitVec = (Int64.ofInt (W : Int) <<< (8 : Int64)).toBitVec ||| (Int64.ofInt (C : Int)).toBitVec := rfl
    have h5 : (Int64.ofNat (W * 256 + C)).toBitVec = BitVec.ofNat 64 (W * 256 + C) := rfl
    rw [h4, h3, h1, h2, h5, BitVec.toNat_or, BitVec.toNat_shiftLeft, BitVec.toNat_ofNat, BitVec.toNat_ofNat, BitVec.toNat_ofNat, Nat.shiftLeft_eq]
    rw [Nat.mod_eq_of_lt (by omega : W < 2 ^ 64), Nat.mod_eq_of_lt (by omega : C < 2 ^ 64), Nat.mod_eq_of_lt (by omega : W * 2 ^ 8 < 2 ^ 64), Nat.mod_eq_of_lt (by omega : W * 256 + C < 2 ^ 64)]
    have := Nat.two_pow_add_eq_or_of_lt (i := 8) (b := C) (by omega) W
    rw [Nat.mul_comm W, ← this]
  rw [e, l_nat (by omega)]
  omega
theorem l_oct {x : Int} (h : -128 ≤ x ∧ x ≤ 127) : 0 ≤ vand x 255 ∧ vand x 255 ≤ 255 := by
  unfold vand
  have h1 := i_and_r (x := Int32.ofInt x) (y := Int32.ofInt 255) (by decide)
  have e : (Int32.ofInt 255).toInt = 255 := rfl
  rw [e] at h1
  exact h1
theorem tw_o {τ : Int → Int} {b : Int} : ∀ {k : Nat}, (∀ j : Nat, j < k → 0 ≤ τ (b + (j : Int)) ∧ τ (b + (j : Int)) ≤ 255) → 0 ≤ tw τ b k ∧ tw τ b k < (256 : Int) ^ k
  | 0, _ => ⟨Int.le_refl _, by show (0 : Int) < 1; omega⟩
  | k + 1, h => by
    obtain ⟨h1, h2⟩ := tw_o (k := k) (fun j hj => h j (by omega))
    obtain ⟨h3, h4⟩ := h k (Nat.lt_succ_self k)
    have e : (256 : Int) ^ (k + 1) = 256 ^ k * 256 := Int.pow_succ 256 k
    show 0 ≤ tw τ b k * 256 + τ (b + (k : Int)) ∧ tw τ b k * 256 + τ (b + (k : Int)) < 256 ^ (k + 1)
    rw [e]
    generalize (256 : Int) ^ k = M at h2
    omega
/-- a letter more -/
theorem tw_more {x c : Int} {k : Nat} (hk : k < 7) (hx : 0 ≤ x ∧ x < (256 : Int) ^ k) (hc : 0 ≤ c ∧ c ≤ 255) : vlor (vlsh x 8) c = x * 256 + c := by
  have h2 : (256 : Int) ^ k ≤ 281474976710656 := by
    match k, hk with
    | 0, _ => decide
    | 1, _ => decide
    | 2, _ => decide
    | 3, _ => decide
    | 4, _ => decide
    | 5, _ => decide
    | 6, _ => decide
    | n + 7, h => omega
  obtain ⟨W, rfl⟩ := Int.eq_ofNat_of_zero_le hx.1
  obtain ⟨C, rfl⟩ := Int.eq_ofNat_of_zero_le hc.1
  exact l_w8 (by omega) (by omega)
