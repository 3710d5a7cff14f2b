/-! THE WALKER, its numbers. -/
def ebz (x : Int32) : Nat := (x.toInt + 2147483648).toNat
theorem ebz_int (x : Int32) : (ebz x : Int) = x.toInt + 2147483648 := by
  have h := x.le_toInt
  unfold ebz
  omega
theorem ebz_inj {x y : Int32} : x = y ↔ ebz x = ebz y := by
  rw [← Int32.toInt_inj]
  have h1 := ebz_int x
  have h2 := ebz_int y
  omega
theorem ebz_lt {x y : Int32} : x < y ↔ ebz x < ebz y := by
  rw [Int32.lt_iff_toInt_lt]
  have h1 := ebz_int x
  have h2 := ebz_int y
  omega
theorem ebz_le {x y : Int32} : x ≤ y ↔ ebz x ≤ ebz y := by
  rw [Int32.le_iff_toInt_le]
  have h1 := ebz_int x
  have h2 := ebz_int y
  omega
theorem ebz_top (x : Int32) : ebz x < 4294967296 := by
  have h := x.toInt_lt
  have h1 := ebz_int x
  omega
theorem e_toInt (n : Nat) : (Int32.ofNat n).toInt = (n : Int).bmod 4294967296 := by
  rw [Int32.toInt_ofNat']
theorem ebz_nat (n : Nat) : ebz (Int32.ofNat n) = ebi n := by
  have h1 := ebz_int (Int32.ofNat n)
  rw [e_toInt, Int.bmod_def] at h1
  unfold ebi
  have h2 : ((n : Int) % 4294967296) = ((n % 4294967296 : Nat) : Int) := by omega
  split at h1 <;> omega
theorem e_mod (n : Nat) : Int32.ofNat (n % 4294967296) = Int32.ofNat n := by
  rw [ebz_inj, ebz_nat, ebz_nat]
  unfold ebi
  omega
theorem e_ebi {x : Int32} {n : Nat} (h : ebz x = n) : x = Int32.ofNat (ebi n) := by
  rw [ebz_inj, ebz_nat, ← h]
  have := ebz_top x
  unfold ebi
  omega
theorem e_un (n : Int) : Int32.ofInt n = Int32.ofNat (eun n) := by
  rw [← Int32.toInt_inj, Int32.toInt_ofInt, e_toInt]
  unfold eun
  show n.bmod 4294967296 = _
  have h : ((n % 4294967296).toNat : Int) = n % 4294967296 := by omega
  rw [h]
  exact (@Int.emod_bmod n 4294967296).symm
theorem e_bv (n : Nat) : (Int32.ofNat n).toBitVec = BitVec.ofNat 32 n := rfl
theorem e_and (a b : Nat) : Int32.ofNat a &&& Int32.ofNat b = Int32.ofNat (Nat.land a b) := by
  apply Int32.toBitVec.inj
  apply BitVec.eq_of_toNat_eq
  show (BitVec.ofNat 32 a &&& BitVec.ofNat 32 b).toNat = (BitVec.ofNat 32 (a &&& b)).toNat
  rw [BitVec.toNat_and, BitVec.toNat_ofNat, BitVec.toNat_ofNat, BitVec.toNat_ofNat, Nat.and_mod_two_pow]
theorem e_or (a b : Nat) : Int32.ofNat a ||| Int32.ofNat b = Int32.ofNat (Nat.lor a b) := by
  apply Int32.toBitVec.inj
  apply BitVec.eq_of_toNat_eq
  show (BitVec.ofNat 32 a ||| BitVec.ofNat 32 b).toNat = (BitVec.ofNat 32 (a ||| b)).toNat
  rw [BitVec.toNat_or, BitVec.toNat_ofNat, BitVec.toNat_ofNat, BitVec.toNat_ofNat, Nat.or_mod_two_pow]
theorem e_xor (a b : Nat) : Int32.ofNat a ^^^ Int32.ofNat b = Int32.ofNat (Nat.xor a b) := by
  apply Int32.toBitVec.inj
  apply BitVec.eq_of_toNat_eq
  show (BitVec.ofNat 32 a ^^^ BitVec.ofNat 32 b).toNat = (BitVec.ofNat 32 (a ^^^ b)).toNat
  rw [BitVec.toNat_xor, BitVec.toNat_ofNat, BitVec.toNat_ofNat, BitVec.toNat_ofNat, Nat.xor_mod_two_pow]
theorem e_add (a b : Nat) : Int32.ofNat a + Int32.ofNat b = Int32.ofNat ((a + b) % 4294967296) := by
  rw [e_mod, Int32.ofNat_add]
theorem e_mul (a b : Nat) : Int32.ofNat a * Int32.ofNat b = Int32.ofNat ((a * b) % 4294967296) := by
  rw [e_mod, Int32.ofNat_mul]
theorem e_sub (a b : Nat) : Int32.ofNat a - Int32.ofNat b = Int32.ofNat ((a + (4294967296 - b % 4294967296)) % 4294967296) := by
  rw [e_mod, Int32.ofNat_add, Int32.ofNat_sub _ _ (by omega), e_mod]
  have h0 : Int32.ofNat 4294967296 = 0 := by decide
  rw [h0]
  simp [Int32.sub_eq_add_neg]
theorem e_31 (b : Nat) : Int32.ofNat b &&& 31 = Int32.ofNat (b % 32) := by
  have h := e_and b 31
  have h2 : Nat.land b 31 = b % 32 := Nat.and_two_pow_sub_one_eq_mod b 5
  rw [h2] at h
  exact h
theorem e_sm : ∀ k, k < 32 → ((Int32.ofNat k).toBitVec.smod 32).toNat = k := by decide
theorem e_tn (n : Nat) : (Int32.ofNat n).toBitVec.toNat = n % 4294967296 := by rw [e_bv, BitVec.toNat_ofNat]
theorem e_bvn {x : Int32} {n : Nat} (h : x.toBitVec.toNat = n % 4294967296) : x = Int32.ofNat n := by
  apply Int32.toBitVec.inj
  apply BitVec.eq_of_toNat_eq
  rw [h, e_tn]
theorem e_shl (a b : Nat) : Int32.ofNat a <<< (Int32.ofNat b &&& 31) = Int32.ofNat ((a <<< (b % 32)) % 4294967296) := by
  rw [e_31, e_mod]
  apply e_bvn
  rw [pk_shl _ _ (b % 32) (e_sm _ (Nat.mod_lt _ (by decide))), e_tn, Nat.shiftLeft_eq, show (2 : Nat) ^ 32 = 4294967296 from rfl, Nat.mod_mul_mod]
theorem e_shr (a b : Nat) (ha : a < 4294967296) : Int32.ofNat a >>> (Int32.ofNat b &&& 31) = Int32.ofNat (fshr a b) := by
  rw [e_31, ← Int32.toInt_inj, pk_shr _ _ (b % 32) (e_sm _ (Nat.mod_lt _ (by decide))), e_toInt, e_toInt]
  by_cases h : 2147483648 ≤ a
  · have hb : Nat.ble 2147483648 a = true := Nat.ble_eq_true_of_le h
    have e1 : (a : Int).bmod 4294967296 = Int.negSucc (4294967295 - a) := by
      rw [Int.bmod_def, Int.negSucc_eq]
      split <;> omega
    have hm : (4294967295 - a) >>> (b % 32) ≤ 4294967295 - a := Nat.shiftRight_le _ _
    have e2 : fshr a b = 4294967295 - (4294967295 - a) >>> (b % 32) := by unfold fshr; rw [hb]; rfl
    rw [e1, e2]
    show Int.negSucc ((4294967295 - a) >>> (b % 32)) = _
    generalize (4294967295 - a) >>> (b % 32) = m2 at hm
    rw [Int.bmod_def, Int.negSucc_eq]
    split <;> omega
  · have hb : Nat.ble 2147483648 a = false := by
      cases hz : Nat.ble 2147483648 a with
      | false => rfl
      | true => exact absurd (Nat.le_of_ble_eq_true hz) h
    have e1 : (a : Int).bmod 4294967296 = Int.ofNat a := by
      rw [Int.bmod_def]
      show _ = (a : Int)
      split <;> omega
    have hm : a >>> (b % 32) ≤ a := Nat.shiftRight_le _ _
    have e2 : fshr a b = a >>> (b % 32) := by unfold fshr; rw [hb]; rfl
    rw [e1, e2]
    show Int.ofNat (a >>> (b % 32)) = _
    generalize a >>> (b % 32) = m2 at hm
    rw [Int.bmod_def]
    show (m2 : Int) = _
    split <;> omega
theorem e_um : ∀ k, k < 32 → (((Int32.ofNat k).toUInt32).toBitVec % 32).toNat = k := by decide
theorem e_ushr (a b : Nat) : ((Int32.ofNat a).toUInt32 >>> ((Int32.ofNat b).toUInt32 &&& Int32.toUInt32 31)).toInt32 = Int32.ofNat ((a % 4294967296) >>> (b % 32)) := by
  have h1 : (Int32.ofNat b).toUInt32 &&& Int32.toUInt32 31 = (Int32.ofNat (b % 32)).toUInt32 := by
    rw [← e_31]; rfl
  apply e_bvn
  rw [pk_ushr _ _ (b % 32) (by rw [h1]; exact e_um _ (Nat.mod_lt _ (by decide))), e_tn, Nat.shiftRight_eq_div_pow]
  have h2 : a % 4294967296 / 2 ^ (b % 32) ≤ a % 4294967296 := Nat.div_le_self _ _
  rw [Nat.mod_eq_of_lt (a := a % 4294967296 / 2 ^ (b % 32)) (by omega)]
theorem e_rem (a b : Nat) (ha : a < 2147483648) (hb0 : 0 < b) (hb : b < 2147483648) : Int32.ofNat a - Int32.ofNat a / Int32.ofNat b * Int32.ofNat b = Int32.ofNat (a % b) := pk_rem (a := a) (d := b) ha hb0 hb
/-- conditions -/
def eCd (c : ClassFile.Cond) (x y : Int32) : Prop := match c with
  | .eq => x = y
  | .ne => ¬ x = y
  | .lt => x < y
  | .ge => y ≤ x
  | .gt => y < x
  | .le => x ≤ y
theorem edec_ok (c : ClassFile.Cond) (x y : Int32) : edec c (ebz x) (ebz y) = true ↔ eCd c x y := by
  cases c <;> simp only [edec, eCd]
  · rw [ebz_inj]; exact ⟨fun h => Nat.eq_of_beq_eq_true h, fun h => by rw [h]; exact Nat.beq_refl _⟩
  · rw [ebz_inj]
    cases h : Nat.beq (ebz x) (ebz y) with
    | true => simp [Nat.eq_of_beq_eq_true h]
    | false => simp [Nat.ne_of_beq_eq_false h]
  · rw [ebz_lt]; exact ⟨fun h => Nat.le_of_ble_eq_true h, fun h => Nat.ble_eq_true_of_le h⟩
  · rw [ebz_le]; exact ⟨fun h => Nat.le_of_ble_eq_true h, fun h => Nat.ble_eq_true_of_le h⟩
  · rw [ebz_lt]; exact ⟨fun h => Nat.le_of_ble_eq_true h, fun h => Nat.ble_eq_true_of_le h⟩
  · rw [ebz_le]; exact ⟨fun h => Nat.le_of_ble_eq_true h, fun h => Nat.ble_eq_true_of_le h⟩
theorem eneg_ok (c : ClassFile.Cond) (x y : Int32) : eCd (eneg c) x y ↔ ¬ eCd c x y := by
  cases c <;> simp only [eneg, eCd]
  · exact Decidable.not_not.symm
  · rw [ebz_lt, ebz_le]; omega
  · rw [ebz_lt, ebz_le]; omega
  · rw [ebz_lt, ebz_le]; omega
  · rw [ebz_lt, ebz_le]; omega
theorem eflip_ok (c : ClassFile.Cond) (x y : Int32) : eCd (eflip c) x y ↔ eCd c y x := by
  cases c <;> simp only [eflip, eCd]
  · exact ⟨fun h => h.symm, fun h => h.symm⟩
  · exact ⟨fun h q => h q.symm, fun h q => h q.symm⟩
def eSat (ρ : Nat → Int32) (cs : eC) : Prop := ∀ (j : Nat) (q : Nat × Nat), cs[j]? = some q → q.1 ≤ ebz (ρ j) ∧ ebz (ρ j) ≤ q.2
theorem ein_ok {ρ : Nat → Int32} {cs : eC} {lo hi j : Nat} {k : eC → Bool} (hs : eSat ρ cs) (h : ein lo hi cs j k = true) (h1 : lo ≤ ebz (ρ j)) (h2 : ebz (ρ j) ≤ hi) : ∃ cs2, k cs2 = true ∧ eSat ρ cs2 := by
  unfold ein at h
  rw [ef_eq, ef_eq] at h
  have hb : Nat.ble lo hi = true := Nat.ble_eq_true_of_le (Nat.le_trans h1 h2)
  rw [hb] at h
  have h : es (lo, hi) cs j k = true := h
  rw [es_eq] at h
  refine ⟨_, h, fun i q hq => ?_⟩
  by_cases hi2 : j = i
  · subst hi2
    have hl : j < cs.length := by
      have := (List.getElem?_eq_some_iff.mp hq).1
      rwa [List.length_set] at this
    rw [List.getElem?_set_self hl] at hq
    cases hq
    exact ⟨h1, h2⟩
  · rw [List.getElem?_set_ne hi2] at hq
    exact hs i q hq
theorem erf_ok {ρ : Nat → Int32} {cs : eC} {c : ClassFile.Cond} {j b : Nat} {k : eC → Bool} (hs : eSat ρ cs) (h : erf c j b cs k = true) {y : Int32} (hy : ebz y = b) (hc : eCd c (ρ j) y) : ∃ cs2, k cs2 = true ∧ eSat ρ cs2 := by
  unfold erf at h
  rw [eg_eq] at h
  cases hq : cs[j]? with
  | none => rw [hq] at h; cases h
  | some q =>
    rw [hq] at h
    obtain ⟨q1, q2⟩ := hs j q hq
    have m1 : ∀ a b : Nat, Nat.min a b = min a b := fun _ _ => rfl
    have m2 : ∀ a b : Nat, Nat.max a b = max a b := fun _ _ => rfl
    cases c with
    | eq =>
      have hc : ρ j = y := hc
      have e := ebz_inj.mp hc
      exact ein_ok hs h (by rw [m2]; omega) (by rw [m1]; omega)
    | ne =>
      have hc : ¬ ρ j = y := hc
      have e : ¬ ebz (ρ j) = ebz y := fun z => hc (ebz_inj.mpr z)
      have h : ((bif Nat.beq b 0 then true else ein q.1 (Nat.min q.2 (b - 1)) cs j k) && ein (Nat.max q.1 (b + 1)) q.2 cs j k) = true := h
      rw [Bool.and_eq_true] at h
      rcases Nat.lt_or_gt_of_ne e with z | z
      · have hb : Nat.beq b 0 = false := by
          cases hz : Nat.beq b 0 with
          | false => rfl
          | true => have := Nat.eq_of_beq_eq_true hz; omega
        have h1 := h.1
        rw [hb] at h1
        exact ein_ok hs h1 (by omega) (by rw [m1]; omega)
      · exact ein_ok hs h.2 (by rw [m2]; omega) (by omega)
    | lt =>
      have hc : ρ j < y := hc
      have e := ebz_lt.mp hc
      have h : (bif Nat.beq b 0 then true else ein q.1 (Nat.min q.2 (b - 1)) cs j k) = true := h
      have hb : Nat.beq b 0 = false := by
        cases hz : Nat.beq b 0 with
        | false => rfl
        | true => have := Nat.eq_of_beq_eq_true hz; omega
      rw [hb] at h
      exact ein_ok hs h (by omega) (by rw [m1]; omega)
    | ge =>
      have hc : y ≤ ρ j := hc
      have e := ebz_le.mp hc
      exact ein_ok hs h (by rw [m2]; omega) (by omega)
    | gt =>
      have hc : y < ρ j := hc
      have e := ebz_lt.mp hc
      exact ein_ok hs h (by rw [m2]; omega) (by omega)
    | le =>
      have hc : ρ j ≤ y := hc
      have e := ebz_le.mp hc
      exact ein_ok hs h (by omega) (by rw [m1]; omega)
