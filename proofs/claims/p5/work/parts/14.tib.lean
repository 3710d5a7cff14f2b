/-! THE CHECKER IS RIGHT: numbers. -/
theorem i_lo (z : Int32) : iMin ≤ z.toInt := by
  have h := z.le_toInt
  show (Int.negSucc 2147483647 : Int) ≤ _
  omega
theorem i_hi (z : Int32) : z.toInt ≤ iMax := by
  have h := z.toInt_lt
  show _ ≤ (Int.ofNat 2147483647 : Int)
  have e : (Int.ofNat 2147483647 : Int) = 2147483647 := rfl
  omega
theorem irg_iff (lo hi : Int) : irg lo hi = true ↔ -2147483648 ≤ lo ∧ hi ≤ 2147483647 := by
  unfold irg
  rw [Bool.and_eq_true, ile_iff, ile_iff]
  exact Iff.rfl
theorem i_add {x y : Int32} (h1 : -2147483648 ≤ x.toInt + y.toInt) (h2 : x.toInt + y.toInt ≤ 2147483647) : (x + y).toInt = x.toInt + y.toInt := by
  rw [Int32.toInt_add, Int.bmod_def]
  split <;> omega
theorem i_sub {x y : Int32} (h1 : -2147483648 ≤ x.toInt - y.toInt) (h2 : x.toInt - y.toInt ≤ 2147483647) : (x - y).toInt = x.toInt - y.toInt := by
  rw [Int32.toInt_sub, Int.bmod_def]
  split <;> omega
theorem i_mul {x y : Int32} (h1 : -2147483648 ≤ x.toInt * y.toInt) (h2 : x.toInt * y.toInt ≤ 2147483647) : (x * y).toInt = x.toInt * y.toInt := by
  rw [Int32.toInt_mul, Int.bmod_def]
  generalize x.toInt * y.toInt = w at h1 h2
  split <;> omega
theorem i_nat (z : Int32) : z = Int32.ofNat z.toBitVec.toNat := e_bvn (by rw [Nat.mod_eq_of_lt]; exact z.toBitVec.isLt)
theorem i_pos {z : Int32} (h : 0 ≤ z.toInt) : ∃ n : Nat, z = Int32.ofNat n ∧ n < 2147483648 ∧ z.toInt = n := by
  refine ⟨z.toBitVec.toNat, i_nat z, ?_, ?_⟩
  all_goals
    have h1 : z.toBitVec.toNat < 4294967296 := z.toBitVec.isLt
    have h2 := e_toInt z.toBitVec.toNat
    rw [← i_nat z, Int.bmod_def] at h2
    split at h2 <;> omega
theorem i_ofNat {n : Nat} (h : n < 2147483648) : (Int32.ofNat n).toInt = n := by
  rw [e_toInt, Int.bmod_def]
  split <;> omega
theorem i_and_l {x y : Int32} (h : 0 ≤ x.toInt) : 0 ≤ (x &&& y).toInt ∧ (x &&& y).toInt ≤ x.toInt := by
  obtain ⟨a, rfl, h1, h2⟩ := i_pos h
  rw [i_nat y, e_and, h2]
  have h3 : Nat.land a y.toBitVec.toNat ≤ a := Nat.and_le_left
  rw [i_ofNat (by omega)]
  omega
theorem i_and_r {x y : Int32} (h : 0 ≤ y.toInt) : 0 ≤ (x &&& y).toInt ∧ (x &&& y).toInt ≤ y.toInt := by
  obtain ⟨a, rfl, h1, h2⟩ := i_pos h
  rw [i_nat x, e_and, h2]
  have h3 : Nat.land x.toBitVec.toNat a ≤ a := Nat.and_le_right
  rw [i_ofNat (by omega)]
  omega
theorem apw_ok {a : Nat} {h : Int} (hh : (a : Int) ≤ h) : ∃ m : Nat, apw h = ((2 ^ (m + 1) - 1 : Nat) : Int) ∧ a < 2 ^ (m + 1) := by
  cases h with
  | ofNat n =>
    refine ⟨Nat.log2 n, rfl, ?_⟩
    have h1 : n < 2 ^ (Nat.log2 n + 1) := Nat.lt_log2_self
    have h2 : a ≤ n := Int.ofNat_le.mp hh
    omega
  | negSucc n => rw [Int.negSucc_eq] at hh; omega
theorem i_or {x y : Int32} {h : Int} (hx : 0 ≤ x.toInt) (hy : 0 ≤ y.toInt) (h1 : x.toInt ≤ h) (h2 : y.toInt ≤ h) : 0 ≤ (x ||| y).toInt ∧ (x ||| y).toInt ≤ apw h := by
  obtain ⟨a, rfl, a1, a2⟩ := i_pos hx
  obtain ⟨c, rfl, c1, c2⟩ := i_pos hy
  rw [a2] at h1
  rw [c2] at h2
  obtain ⟨m, m1, m2⟩ := apw_ok h1
  obtain ⟨m', m3, m4⟩ := apw_ok h2
  have e : (2 ^ (m + 1) - 1 : Nat) = 2 ^ (m' + 1) - 1 := by rw [m1] at m3; exact Int.ofNat.inj m3
  have p1 := Nat.one_le_two_pow (n := m + 1)
  have p2 := Nat.one_le_two_pow (n := m' + 1)
  have h3 : Nat.lor a c < 2 ^ (m + 1) := Nat.or_lt_two_pow m2 (by omega)
  have h4 : Nat.lor a c < 2 ^ 31 := Nat.or_lt_two_pow (by omega) (by omega)
  rw [e_or, i_ofNat (by omega), m1]
  omega
theorem i_xor {x y : Int32} {h : Int} (hx : 0 ≤ x.toInt) (hy : 0 ≤ y.toInt) (h1 : x.toInt ≤ h) (h2 : y.toInt ≤ h) : 0 ≤ (x ^^^ y).toInt ∧ (x ^^^ y).toInt ≤ apw h := by
  obtain ⟨a, rfl, a1, a2⟩ := i_pos hx
  obtain ⟨c, rfl, c1, c2⟩ := i_pos hy
  rw [a2] at h1
  rw [c2] at h2
  obtain ⟨m, m1, m2⟩ := apw_ok h1
  obtain ⟨m', m3, m4⟩ := apw_ok h2
  have e : (2 ^ (m + 1) - 1 : Nat) = 2 ^ (m' + 1) - 1 := by rw [m1] at m3; exact Int.ofNat.inj m3
  have p1 := Nat.one_le_two_pow (n := m + 1)
  have p2 := Nat.one_le_two_pow (n := m' + 1)
  have h3 : Nat.xor a c < 2 ^ (m + 1) := Nat.xor_lt_two_pow m2 (by omega)
  have h4 : Nat.xor a c < 2 ^ 31 := Nat.xor_lt_two_pow (by omega) (by omega)
  rw [e_xor, i_ofNat (by omega), m1]
  omega
theorem i_shr {x y : Int32} (hx : 0 ≤ x.toInt) : 0 ≤ (x >>> (y &&& 31)).toInt ∧ (x >>> (y &&& 31)).toInt ≤ x.toInt := by
  obtain ⟨a, rfl, a1, a2⟩ := i_pos hx
  rw [a2, i_nat y, e_shr _ _ (by omega)]
  have hb : Nat.ble 2147483648 a = false := by
    cases hz : Nat.ble 2147483648 a with
    | false => rfl
    | true => have := Nat.le_of_ble_eq_true hz; omega
  unfold fshr
  rw [hb, cond_false]
  have := Nat.shiftRight_le a (y.toBitVec.toNat % 32)
  generalize a >>> (y.toBitVec.toNat % 32) = w at this
  rw [i_ofNat (by omega)]
  omega
theorem i_ush {x y : Int32} (hx : 0 ≤ x.toInt) : 0 ≤ (x.toUInt32 >>> (y.toUInt32 &&& Int32.toUInt32 31)).toInt32.toInt ∧ (x.toUInt32 >>> (y.toUInt32 &&& Int32.toUInt32 31)).toInt32.toInt ≤ x.toInt := by
  obtain ⟨a, rfl, a1, a2⟩ := i_pos hx
  rw [a2, i_nat y, e_ushr, Nat.mod_eq_of_lt (by omega)]
  have := Nat.shiftRight_le a (y.toBitVec.toNat % 32)
  generalize a >>> (y.toBitVec.toNat % 32) = w at this
  rw [i_ofNat (by omega)]
  omega
theorem i_ush8 {x y : Int32} (hy : y.toInt = 8) : 0 ≤ (x.toUInt32 >>> (y.toUInt32 &&& Int32.toUInt32 31)).toInt32.toInt ∧ (x.toUInt32 >>> (y.toUInt32 &&& Int32.toUInt32 31)).toInt32.toInt ≤ 16777215 := by
  obtain ⟨c, rfl, c1, c2⟩ := i_pos (z := y) (by omega)
  have hc : c = 8 := by omega
  subst hc
  rw [i_nat x, e_ushr]
  have h1 : x.toBitVec.toNat % 4294967296 < 4294967296 := Nat.mod_lt _ (by decide)
  generalize x.toBitVec.toNat % 4294967296 = w at h1
  have h2 : w >>> (8 % 32) = w / 256 := Nat.shiftRight_eq_div_pow w 8
  rw [h2, i_ofNat (by omega)]
  omega
theorem i_rem {x y : Int32} (hx : 0 ≤ x.toInt) (hy : 1 ≤ y.toInt) : 0 ≤ (x - x / y * y).toInt ∧ (x - x / y * y).toInt ≤ x.toInt ∧ (x - x / y * y).toInt ≤ y.toInt - 1 := by
  obtain ⟨a, rfl, a1, a2⟩ := i_pos hx
  obtain ⟨c, rfl, c1, c2⟩ := i_pos (z := y) (by omega)
  have hc : 0 < c := by omega
  rw [a2, c2, e_rem a c a1 hc c1]
  have h1 := Nat.mod_lt a hc
  have h2 := Nat.mod_le a c
  rw [i_ofNat (by omega)]
  omega
section AO
variable {b : Nat} {so ad : List Nat} {tys : List (ClassId × FieldType)} {ST : Nat → Option aS} {JL : List aJ} {ρ : Nat → Int} {ρr : Nat → Nat} {md : aMd} {ws0 ws : va_W} {A : aA}
/-- what a step that makes a value gives -/
def aGot (b : Nat) (so ad : List Nat) (tys : List (ClassId × FieldType)) (ST : Nat → Option aS) (JL : List aJ) (md : aMd) (ws0 ws : va_W) (A : aA) (ρ : Nat → Int) (ρr : Nat → Nat) (kk : aV → aA → Bool) (x : Value) : Prop :=
  ∃ (v : aV) (A2 : aA) (ρ2 : Nat → Int) (ρr2 : Nat → Nat), kk v A2 = true ∧ aUp A ρ ρr A2 ρ2 ρr2 ∧ aRel b so ad tys ST JL ρ2 ρr2 md ws0 A2 ws ∧ vRel b ad ρ2 ρr2 A2.1 A2.2.2.1 v x
theorem anew_v (hR : aRel b so ad tys ST JL ρ ρr md ws0 A ws) {lo hi : Int} {pb : Nat} {pc : Int} {df : Nat × Nat} {kk : aV → aA → Bool} (h : anewd A lo hi pb pc df kk = true) {z : Int32} (h1 : lo ≤ z.toInt) (h2 : z.toInt ≤ hi) (h3 : pb < A.1) (h4 : ρ pb + pc ≤ z.toInt) (h5 : ¬ df.2 = 0 → df.1 < A.1 ∧ z.toInt = (df.2 : Int) * ρ df.1) : aGot b so ad tys ST JL md ws0 ws A ρ ρr kk (.int z) := by
  obtain ⟨A2, ρ2, g1, g2, g3, g4, g5⟩ := anewd_ok hR h h1 h2 h3 h4 h5
  exact ⟨_, A2, ρ2, ρr, g1, g2, g3, g4, z, rfl, by show z.toInt = ρ2 A.1 + 0; rw [g5]; omega⟩
theorem anew_0 (hR : aRel b so ad tys ST JL ρ ρr md ws0 A ws) {lo hi pc : Int} {kk : aV → aA → Bool} (h : anew A lo hi 0 pc kk = true) {z : Int32} (h1 : lo ≤ z.toInt) (h2 : z.toInt ≤ hi) (h4 : pc ≤ z.toInt) : aGot b so ad tys ST JL md ws0 ws A ρ ρr kk (.int z) :=
  anew_v hR h h1 h2 hR.1.1 (by rw [hR.1.2.2.1]; omega) (fun q => absurd rfl q)
theorem aany_v (hR : aRel b so ad tys ST JL ρ ρr md ws0 A ws) {kk : aV → aA → Bool} (h : aany A kk = true) (z : Int32) : aGot b so ad tys ST JL md ws0 ws A ρ ρr kk (.int z) := anew_0 hR h (i_lo z) (i_hi z) (i_lo z)
theorem arng_v (hR : aRel b so ad tys ST JL ρ ρr md ws0 A ws) {lo hi : Int} {kk : aV → aA → Bool} (h : arng A lo hi kk = true) {z : Int32} (h1 : lo ≤ z.toInt) (h2 : z.toInt ≤ hi) : aGot b so ad tys ST JL md ws0 ws A ρ ρr kk (.int z) := by
  unfold arng at h
  cases hb : irg lo hi with
  | true => rw [hb] at h; exact anew_0 hR h h1 h2 h1
  | false => rw [hb] at h; exact aany_v hR h z
/-- .. nothing new, another offset -/
theorem aold_v (hR : aRel b so ad tys ST JL ρ ρr md ws0 A ws) {kk : aV → aA → Bool} {k : Nat} {c : Int} (h : kk (.inl (k, c)) A = true) (hk : k < A.1) {z : Int32} (hz : z.toInt = ρ k + c) : aGot b so ad tys ST JL md ws0 ws A ρ ρr kk (.int z) := ⟨_, A, ρ, ρr, h, aUp.refl, hR, hk, z, rfl, hz⟩
/-- an operation of the checker is right for an operation on ints -/
def aOk (f : aO) (op : Int32 → Int32 → Int32) : Prop := ∀ {b : Nat} {so ad : List Nat} {tys : List (ClassId × FieldType)} {ST : Nat → Option aS} {JL : List aJ} {ρ : Nat → Int} {ρr : Nat → Nat} {md : aMd} {ws0 ws : va_W} {A : aA} {x y : Nat × Int} {kk : aV → aA → Bool} {z1 z2 : Int32}, aRel b so ad tys ST JL ρ ρr md ws0 A ws → x.1 < A.1 → y.1 < A.1 → z1.toInt = ρ x.1 + x.2 → z2.toInt = ρ y.1 + y.2 → f A x y kk = true → aGot b so ad tys ST JL md ws0 ws A ρ ρr kk (.int (op z1 z2))
theorem age_ok (hs : cSat ρ A.1 A.2.1) {k0 : Nat} {d0 : Int} : ∀ (f : Nat) (k : Nat) (c : Int), age A k0 d0 f k c = true → ρ k0 + d0 ≤ ρ k + c
  | 0, k, c, h => (nomatch h)
  | f + 1, 0, c, h => by
    have h : (bif Nat.beq 0 k0 then ile d0 c else false) = true := h
    obtain ⟨hb, h⟩ := e_cond h e_ff
    rw [ile_iff] at h
    rw [← Nat.eq_of_beq_eq_true hb]
    omega
  | f + 1, k + 1, c, h => by
    have h : (bif Nat.beq (k + 1) k0 then ile d0 c else (match acs A.1 A.2.1 (k + 1) with
        | some q => efI (q.2.2.1.2 + c) (fun c2 => age A k0 d0 f q.2.2.1.1 c2)
        | none => false)) = true := h
    cases hb : Nat.beq (k + 1) k0 with
    | true =>
      rw [hb, cond_true, ile_iff] at h
      rw [Nat.eq_of_beq_eq_true hb]
      omega
    | false =>
      rw [hb, cond_false] at h
      cases hq : acs A.1 A.2.1 (k + 1) with
      | none => rw [hq] at h; cases h
      | some q =>
        rw [hq] at h
        dsimp only at h
        rw [efI_eq] at h
        have h1 := age_ok hs f _ _ h
        obtain ⟨-, -, -, c4, -⟩ := hs.2.2.2 _ _ hq
        omega
theorem aadd_ok : aOk aadd (fun x y => x + y) := by
  intro b so ad tys ST JL ρ ρr md ws0 ws A x y kk z1 z2 hR hx hy e1 e2 h
  obtain ⟨l1, h1, h, b1, b2⟩ := abd_ok hR.1 h
  obtain ⟨l2, h2, h, b3, b4⟩ := abd_ok hR.1 h
  cases hb : irg (l1 + l2) (h1 + h2) with
  | false => rw [hb] at h; exact aany_v hR h _
  | true =>
    rw [hb, cond_true] at h
    rw [irg_iff] at hb
    have ez : (z1 + z2).toInt = z1.toInt + z2.toInt := i_add (by omega) (by omega)
    obtain ⟨kx, cx⟩ := x
    obtain ⟨ky, cy⟩ := y
    dsimp only at *
    cases ky with
    | zero =>
      dsimp only at h
      rw [efI_eq] at h
      have h0 := hR.1.2.2.1
      exact aold_v hR h hx (by rw [ez]; omega)
    | succ ky =>
      dsimp only at h
      cases kx with
      | zero =>
        dsimp only at h
        rw [efI_eq] at h
        have h0 := hR.1.2.2.1
        exact aold_v hR h hy (by rw [ez]; omega)
      | succ kx => exact anew_0 hR h (by omega) (by omega) (by omega)
theorem asub_ok : aOk asub (fun x y => x - y) := by
  intro b so ad tys ST JL ρ ρr md ws0 ws A x y kk z1 z2 hR hx hy e1 e2 h
  obtain ⟨l1, h1, h, b1, b2⟩ := abd_ok hR.1 h
  obtain ⟨l2, h2, h, b3, b4⟩ := abd_ok hR.1 h
  cases hb : irg (l1 - h2) (h1 - l2) with
  | false => rw [hb] at h; exact aany_v hR h _
  | true =>
    rw [hb, cond_true] at h
    rw [irg_iff] at hb
    have ez : (z1 - z2).toInt = z1.toInt - z2.toInt := i_sub (by omega) (by omega)
    obtain ⟨kx, cx⟩ := x
    obtain ⟨ky, cy⟩ := y
    dsimp only at *
    cases ky with
    | zero =>
      dsimp only at h
      rw [efI_eq] at h
      have h0 := hR.1.2.2.1
      exact aold_v hR h hx (by rw [ez]; omega)
    | succ ky =>
      dsimp only at h
      refine anew_0 hR h ?_ (by omega) (i_lo _)
      cases ha : age A (ky + 1) cy 40 kx cx with
      | true =>
        rw [cond_true]
        have h3 := age_ok hR.1 _ _ _ ha
        exact imx_le (by omega) (by omega)
      | false => rw [cond_false]; omega
theorem adf_ok {A : aA} {ρ : Nat → Int} (hs : cSat ρ A.1 A.2.1) {x y : Nat × Int} (hx : x.1 < A.1) (hy : y.1 < A.1) : ¬ (adf x y).2 = 0 → (adf x y).1 < A.1 ∧ (ρ x.1 + x.2) * (ρ y.1 + y.2) = ((adf x y).2 : Int) * ρ (adf x y).1 := by
  obtain ⟨kx, cx⟩ := x
  obtain ⟨ky, cy⟩ := y
  have h0 := hs.2.2.1
  cases kx with
  | zero =>
    cases ky with
    | zero => exact fun q => absurd rfl q
    | succ ky =>
      have e : adf (0, cx) (ky + 1, cy) = bif ieq cy 0 && ile 1 cx then (ky + 1, cx.toNat) else (0, 0) := rfl
      rw [e]
      cases hb : ieq cy 0 && ile 1 cx with
      | false => exact fun q => absurd rfl q
      | true =>
        rw [Bool.and_eq_true, ieq_iff, ile_iff] at hb
        intro _
        refine ⟨hy, ?_⟩
        show (ρ 0 + cx) * (ρ (ky + 1) + cy) = ((cx.toNat : Nat) : Int) * ρ (ky + 1)
        rw [h0, hb.1, Int.toNat_of_nonneg (by omega), Int.zero_add, Int.add_zero]
  | succ kx =>
    cases ky with
    | zero =>
      have e : adf (kx + 1, cx) (0, cy) = bif ieq cx 0 && ile 1 cy then (kx + 1, cy.toNat) else (0, 0) := rfl
      rw [e]
      cases hb : ieq cx 0 && ile 1 cy with
      | false => exact fun q => absurd rfl q
      | true =>
        rw [Bool.and_eq_true, ieq_iff, ile_iff] at hb
        intro _
        refine ⟨hx, ?_⟩
        show (ρ (kx + 1) + cx) * (ρ 0 + cy) = ((cy.toNat : Nat) : Int) * ρ (kx + 1)
        rw [h0, hb.1, Int.toNat_of_nonneg (by omega), Int.zero_add, Int.add_zero, Int.mul_comm]
    | succ ky => exact fun q => absurd rfl q
theorem amul_ok : aOk amul (fun x y => x * y) := by
  intro b so ad tys ST JL ρ ρr md ws0 ws A x y kk z1 z2 hR hx hy e1 e2 h
  obtain ⟨l1, h1, h, b1, b2⟩ := abd_ok hR.1 h
  obtain ⟨l2, h2, h, b3, b4⟩ := abd_ok hR.1 h
  cases hb : (ile 0 l1 && ile 0 l2) && irg (l1 * l2) (h1 * h2) with
  | false => rw [hb] at h; exact aany_v hR h _
  | true =>
    rw [hb, cond_true] at h
    rw [Bool.and_eq_true, Bool.and_eq_true, ile_iff, ile_iff, irg_iff] at hb
    obtain ⟨⟨p1, p2⟩, p3, p4⟩ := hb
    rw [← e1] at b1 b2
    rw [← e2] at b3 b4
    have q1 : l1 * l2 ≤ z1.toInt * z2.toInt := Int.mul_le_mul b1 b3 p2 (by omega)
    have q2 : z1.toInt * z2.toInt ≤ h1 * h2 := Int.mul_le_mul b2 b4 (by omega) (by omega)
    have ez : (z1 * z2).toInt = z1.toInt * z2.toInt := i_mul (Int.le_trans p3 q1) (Int.le_trans q2 p4)
    refine anew_v hR h (by rw [ez]; exact q1) (by rw [ez]; exact q2) hR.1.1 (by rw [hR.1.2.2.1, Int.zero_add]; exact i_lo _) (fun q => ?_)
    obtain ⟨g1, g2⟩ := adf_ok hR.1 hx hy q
    exact ⟨g1, by rw [ez, e1, e2]; exact g2⟩
theorem aand_ok : aOk aand (fun x y => x &&& y) := by
  intro b so ad tys ST JL ρ ρr md ws0 ws A x y kk z1 z2 hR hx hy e1 e2 h
  dsimp only
  obtain ⟨l1, h1, h, b1, b2⟩ := abd_ok hR.1 h
  obtain ⟨l2, h2, h, b3, b4⟩ := abd_ok hR.1 h
  rw [← e1] at b1 b2
  rw [← e2] at b3 b4
  cases c1 : ile 0 l1 with
  | true =>
    rw [c1, cond_true] at h
    have d1 := (ile_iff _ _).mp c1
    have f1 := i_and_l (x := z1) (y := z2) (by omega)
    cases c2 : ile 0 l2 with
    | true =>
      rw [c2, cond_true] at h
      have d2 := (ile_iff _ _).mp c2
      have f2 := i_and_r (x := z1) (y := z2) (by omega)
      exact anew_0 hR h f1.1 (imn_ge (by omega) (by omega)) f1.1
    | false => rw [c2, cond_false] at h; exact anew_0 hR h f1.1 (by omega) f1.1
  | false =>
    rw [c1, cond_false] at h
    cases c2 : ile 0 l2 with
    | true =>
      rw [c2, cond_true] at h
      have d2 := (ile_iff _ _).mp c2
      have f2 := i_and_r (x := z1) (y := z2) (by omega)
      exact anew_0 hR h f2.1 (by omega) f2.1
    | false => rw [c2, cond_false] at h; exact aany_v hR h _
theorem aor_ok : aOk aor (fun x y => x ||| y) ∧ aOk aor (fun x y => x ^^^ y) := by
  constructor
  all_goals
    intro b so ad tys ST JL ρ ρr md ws0 ws A x y kk z1 z2 hR hx hy e1 e2 h
    dsimp only
    obtain ⟨l1, h1, h, b1, b2⟩ := abd_ok hR.1 h
    obtain ⟨l2, h2, h, b3, b4⟩ := abd_ok hR.1 h
    rw [← e1] at b1 b2
    rw [← e2] at b3 b4
    cases hb : ile 0 l1 && ile 0 l2 with
    | false => rw [hb] at h; exact aany_v hR h _
    | true =>
      rw [hb, cond_true] at h
      rw [Bool.and_eq_true, ile_iff, ile_iff] at hb
      have m := imx_ge h1 h2
      first
        | have f := i_or (x := z1) (y := z2) (h := imx h1 h2) (by omega) (by omega) (by omega) (by omega)
          exact arng_v hR h f.1 f.2
        | have f := i_xor (x := z1) (y := z2) (h := imx h1 h2) (by omega) (by omega) (by omega) (by omega)
          exact arng_v hR h f.1 f.2
theorem aall_ok (op : Int32 → Int32 → Int32) : aOk aall op := by
  intro b so ad tys ST JL ρ ρr md ws0 ws A x y kk z1 z2 hR hx hy e1 e2 h
  obtain ⟨l1, h1, h, -, -⟩ := abd_ok hR.1 h
  obtain ⟨l2, h2, h, -, -⟩ := abd_ok hR.1 h
  exact aany_v hR h _
theorem ashr_ok : aOk ashr (fun x y => x >>> (y &&& 31)) := by
  intro b so ad tys ST JL ρ ρr md ws0 ws A x y kk z1 z2 hR hx hy e1 e2 h
  dsimp only
  obtain ⟨l1, h1, h, b1, b2⟩ := abd_ok hR.1 h
  obtain ⟨l2, h2, h, b3, b4⟩ := abd_ok hR.1 h
  rw [← e1] at b1 b2
  cases c1 : ile 0 l1 with
  | true =>
    rw [c1, cond_true] at h
    have d1 := (ile_iff _ _).mp c1
    have f := i_shr (x := z1) (y := z2) (by omega)
    exact anew_0 hR h f.1 (by omega) f.1
  | false => rw [c1, cond_false] at h; exact aany_v hR h _
theorem aush_ok : aOk aush (fun x y => (x.toUInt32 >>> (y.toUInt32 &&& Int32.toUInt32 31)).toInt32) := by
  intro b so ad tys ST JL ρ ρr md ws0 ws A x y kk z1 z2 hR hx hy e1 e2 h
  dsimp only
  obtain ⟨l1, h1, h, b1, b2⟩ := abd_ok hR.1 h
  obtain ⟨l2, h2, h, b3, b4⟩ := abd_ok hR.1 h
  rw [← e1] at b1 b2
  rw [← e2] at b3 b4
  cases c1 : ile 0 l1 with
  | true =>
    rw [c1, cond_true] at h
    have d1 := (ile_iff _ _).mp c1
    have f := i_ush (x := z1) (y := z2) (by omega)
    exact anew_0 hR h f.1 (by omega) f.1
  | false =>
    rw [c1, cond_false] at h
    cases c2 : ile 8 l2 && ile h2 8 with
    | true =>
      rw [c2, cond_true] at h
      rw [Bool.and_eq_true, ile_iff, ile_iff] at c2
      have f := i_ush8 (x := z1) (y := z2) (by omega)
      exact anew_0 hR h f.1 f.2 f.1
    | false => rw [c2, cond_false] at h; exact aany_v hR h _
theorem arem_ok {x y : Nat × Int} {kk : aV → aA → Bool} {z1 z2 : Int32} (hR : aRel b so ad tys ST JL ρ ρr md ws0 A ws) (e1 : z1.toInt = ρ x.1 + x.2) (e2 : z2.toInt = ρ y.1 + y.2) (h : arem A x y kk = true) : ¬ z2 = 0 ∧ aGot b so ad tys ST JL md ws0 ws A ρ ρr kk (.int (z1 - z1 / z2 * z2)) := by
  obtain ⟨l1, h1, h, b1, b2⟩ := abd_ok hR.1 h
  obtain ⟨l2, h2, h, b3, b4⟩ := abd_ok hR.1 h
  rw [← e1] at b1 b2
  rw [← e2] at b3 b4
  obtain ⟨hb, h⟩ := e_cond h e_ff
  rw [Bool.and_eq_true, ile_iff, ile_iff] at hb
  have f := i_rem (x := z1) (y := z2) (by omega) (by omega)
  refine ⟨fun q => ?_, anew_0 hR h f.1 (imn_ge (by omega) (by omega)) f.1⟩
  rw [q] at b3
  have : (0 : Int32).toInt = 0 := rfl
  omega
theorem adiv_ok {x y : Nat × Int} {kk : aV → aA → Bool} {z1 z2 : Int32} (hR : aRel b so ad tys ST JL ρ ρr md ws0 A ws) (e2 : z2.toInt = ρ y.1 + y.2) (h : adiv A x y kk = true) : ¬ z2 = 0 ∧ aGot b so ad tys ST JL md ws0 ws A ρ ρr kk (.int (z1 / z2)) := by
  obtain ⟨l1, h1, h, b1, b2⟩ := abd_ok hR.1 h
  obtain ⟨l2, h2, h, b3, b4⟩ := abd_ok hR.1 h
  rw [← e2] at b3 b4
  obtain ⟨hb, h⟩ := e_cond h e_ff
  rw [ile_iff] at hb
  refine ⟨fun q => ?_, aany_v hR h _⟩
  rw [q] at b3
  have : (0 : Int32).toInt = 0 := rfl
  omega
end AO
