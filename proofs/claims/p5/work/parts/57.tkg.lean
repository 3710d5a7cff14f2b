/-! TEXT: runs, words, numbers. -/
def tsm (c : Int) : Bool := decide (97 ≤ c) && decide (c ≤ 122)
def tdg (c : Int) : Bool := decide (48 ≤ c) && decide (c ≤ 57)
def tal (c : Int) : Bool := tsm c || tdg c
def tbk (c : Int) : Bool := decide (c = 32) || decide (c = 10)
theorem tsm_iff {c : Int} : tsm c = true ↔ 97 ≤ c ∧ c ≤ 122 := by
  unfold tsm
  rw [Bool.and_eq_true, decide_eq_true_iff, decide_eq_true_iff]
theorem tdg_iff {c : Int} : tdg c = true ↔ 48 ≤ c ∧ c ≤ 57 := by
  unfold tdg
  rw [Bool.and_eq_true, decide_eq_true_iff, decide_eq_true_iff]
theorem tal_iff {c : Int} : tal c = true ↔ (97 ≤ c ∧ c ≤ 122) ∨ (48 ≤ c ∧ c ≤ 57) := by
  unfold tal
  rw [Bool.or_eq_true, tsm_iff, tdg_iff]
theorem tbk_iff {c : Int} : tbk c = true ↔ c = 32 ∨ c = 10 := by
  unfold tbk
  rw [Bool.or_eq_true, decide_eq_true_iff, decide_eq_true_iff]
/-- the first place from p on where the run ends -/
def tend (P : Int → Bool) (n : Int) : Nat → Int → Int
  | 0, p => p
  | k + 1, p => if p < n ∧ P p = true then tend P n k (p + 1) else p
def tE (P : Int → Bool) (n p : Int) : Int := tend P n (n - p).toNat p
theorem tE_go {P : Int → Bool} {n p : Int} (h1 : p < n) (h2 : P p = true) : tE P n p = tE P n (p + 1) := by
  unfold tE
  obtain ⟨k, hk⟩ : ∃ k, (n - p).toNat = k + 1 := ⟨(n - p).toNat - 1, by omega⟩
  rw [hk]
  show (if p < n ∧ P p = true then tend P n k (p + 1) else p) = _
  rw [if_pos ⟨h1, h2⟩, show (n - (p + 1)).toNat = k by omega]
theorem tE_stop {P : Int → Bool} {n p : Int} (h : ¬ (p < n ∧ P p = true)) : tE P n p = p := by
  unfold tE
  cases (n - p).toNat with
  | zero => rfl
  | succ k =>
    show (if p < n ∧ P p = true then tend P n k (p + 1) else p) = _
    rw [if_neg h]
theorem tE_spec {P : Int → Bool} {n : Int} : ∀ (k : Nat) (p : Int), n - p ≤ (k : Int) → p ≤ tE P n p ∧ (tE P n p = p ∨ tE P n p ≤ n) ∧ (∀ q : Int, p ≤ q → q < tE P n p → P q = true) ∧ ¬ (tE P n p < n ∧ P (tE P n p) = true)
  | 0, p, h => by
    have e : tE P n p = p := tE_stop (fun q => by omega)
    rw [e]
    exact ⟨Int.le_refl _, Or.inl rfl, fun q h1 h2 => by omega, fun q => by omega⟩
  | k + 1, p, h => by
    by_cases hc : p < n ∧ P p = true
    · rw [tE_go hc.1 hc.2]
      obtain ⟨g1, g2, g3, g4⟩ := tE_spec (P := P) (n := n) k (p + 1) (by omega)
      refine ⟨by omega, Or.inr (by rcases g2 with g2 | g2 <;> omega), fun q h1 h2 => ?_, g4⟩
      by_cases hq : q = p
      · rw [hq]; exact hc.2
      · exact g3 q (by omega) h2
    · rw [tE_stop hc]
      exact ⟨Int.le_refl _, Or.inl rfl, fun q h1 h2 => by omega, hc⟩
theorem tE_all {P : Int → Bool} {n p : Int} : p ≤ tE P n p ∧ (tE P n p = p ∨ tE P n p ≤ n) ∧ (∀ q : Int, p ≤ q → q < tE P n p → P q = true) ∧ ¬ (tE P n p < n ∧ P (tE P n p) = true) := tE_spec (n - p).toNat p (by omega)
/-- words in base 256, in base 27, numbers: of the first k places from b on -/
def tw (τ : Int → Int) (b : Int) : Nat → Int
  | 0 => 0
  | k + 1 => tw τ b k * 256 + τ (b + (k : Int))
def tc (τ : Int → Int) (b : Int) : Nat → Int
  | 0 => 0
  | k + 1 => tc τ b k * 27 + (τ (b + (k : Int)) - 96)
def tn (τ : Int → Int) (b : Int) : Nat → Int
  | 0 => 0
  | k + 1 => 10 * tn τ b k + τ (b + (k : Int)) - 48
/-- .. of letters alone -/
def tls (τ : Int → Int) (b : Int) (k : Nat) : Prop := ∀ j : Nat, j < k → 97 ≤ τ (b + (j : Int)) ∧ τ (b + (j : Int)) ≤ 122
def tds (τ : Int → Int) (b : Int) (k : Nat) : Prop := ∀ j : Nat, j < k → 48 ≤ τ (b + (j : Int)) ∧ τ (b + (j : Int)) ≤ 57
theorem tls_le {τ : Int → Int} {b : Int} {k m : Nat} (h : tls τ b k) (hm : m ≤ k) : tls τ b m := fun j hj => h j (by omega)
theorem tw_b {τ : Int → Int} {b : Int} : ∀ {k : Nat}, tls τ b k → 0 ≤ tw τ b k ∧ tw τ b k < (256 : Int) ^ k
  | 0, _ => ⟨Int.le_refl _, by show (0 : Int) < 1; omega⟩
  | k + 1, h => by
    obtain ⟨h1, h2⟩ := tw_b (tls_le h (Nat.le_succ k))
    obtain ⟨h3, h4⟩ := h k (Nat.lt_succ_self k)
    have e : (256 : Int) ^ (k + 1) = 256 ^ k * 256 := Int.pow_succ 256 k
    show 0 ≤ tw τ b k * 256 + τ (b + (k : Int)) ∧ tw τ b k * 256 + τ (b + (k : Int)) < 256 ^ (k + 1)
    rw [e]
    generalize (256 : Int) ^ k = M at h2
    omega
theorem tc_b {τ : Int → Int} {b : Int} : ∀ {k : Nat}, tls τ b k → 0 ≤ tc τ b k ∧ tc τ b k < (27 : Int) ^ k
  | 0, _ => ⟨Int.le_refl _, by show (0 : Int) < 1; omega⟩
  | k + 1, h => by
    obtain ⟨h1, h2⟩ := tc_b (tls_le h (Nat.le_succ k))
    obtain ⟨h3, h4⟩ := h k (Nat.lt_succ_self k)
    have e : (27 : Int) ^ (k + 1) = 27 ^ k * 27 := Int.pow_succ 27 k
    show 0 ≤ tc τ b k * 27 + (τ (b + (k : Int)) - 96) ∧ tc τ b k * 27 + (τ (b + (k : Int)) - 96) < 27 ^ (k + 1)
    rw [e]
    generalize (27 : Int) ^ k = M at h2
    omega
/-- from base 27 to base 256 -/
def tph : Nat → Int → Int
  | 0, _ => 0
  | k + 1, c => if c ≤ 0 then 0 else tph k ((c - 1) / 27) * 256 + (97 + (c - 1) % 27)
theorem tph_tc {τ : Int → Int} {b : Int} : ∀ {k : Nat}, tls τ b k → ∀ m : Nat, k ≤ m → tph m (tc τ b k) = tw τ b k
  | 0, _, 0, _ => rfl
  | 0, _, m + 1, _ => by
    show (if (0 : Int) ≤ 0 then 0 else _) = (0 : Int)
    rw [if_pos (Int.le_refl _)]
  | k + 1, h, 0, hm => absurd hm (by omega)
  | k + 1, h, m + 1, hm => by
    have h0 := tls_le h (Nat.le_succ k)
    obtain ⟨h1, -⟩ := tc_b h0
    obtain ⟨h3, h4⟩ := h k (Nat.lt_succ_self k)
    have ih := tph_tc h0 m (by omega)
    show (if tc τ b k * 27 + (τ (b + (k : Int)) - 96) ≤ 0 then 0 else tph m ((tc τ b k * 27 + (τ (b + (k : Int)) - 96) - 1) / 27) * 256 + (97 + (tc τ b k * 27 + (τ (b + (k : Int)) - 96) - 1) % 27)) = tw τ b k * 256 + τ (b + (k : Int))
    rw [if_neg (by omega), show (tc τ b k * 27 + (τ (b + (k : Int)) - 96) - 1) / 27 = tc τ b k by omega, ih]
    omega
/-- two words of at most seven letters are the same in both, or in none -/
theorem tph_inj : ∀ (m : Nat) {x y : Int}, 0 ≤ x → 0 ≤ y → x < (27 : Int) ^ m → y < (27 : Int) ^ m → tph m x = tph m y → x = y
  | 0, x, y, h1, h2, h3, h4, _ => by
    have e : (27 : Int) ^ 0 = 1 := rfl
    rw [e] at h3 h4
    omega
  | m + 1, x, y, h1, h2, h3, h4, h => by
    have e : (27 : Int) ^ (m + 1) = 27 ^ m * 27 := Int.pow_succ 27 m
    rw [e] at h3 h4
    have pos : ∀ (k : Nat) (c : Int), 0 ≤ tph k c := by
      intro k
      induction k with
      | zero => exact fun _ => Int.le_refl _
      | succ k ih =>
        intro c
        show 0 ≤ if c ≤ 0 then 0 else tph k ((c - 1) / 27) * 256 + (97 + (c - 1) % 27)
        by_cases hc : c ≤ 0
        · rw [if_pos hc]; exact Int.le_refl _
        · rw [if_neg hc]
          have := ih ((c - 1) / 27)
          omega
    have h : (if x ≤ 0 then 0 else tph m ((x - 1) / 27) * 256 + (97 + (x - 1) % 27)) = (if y ≤ 0 then 0 else tph m ((y - 1) / 27) * 256 + (97 + (y - 1) % 27)) := h
    have px := pos m ((x - 1) / 27)
    have py := pos m ((y - 1) / 27)
    by_cases hx : x ≤ 0
    · by_cases hy : y ≤ 0
      · omega
      · rw [if_pos hx, if_neg hy] at h
        omega
    · by_cases hy : y ≤ 0
      · rw [if_neg hx, if_pos hy] at h
        omega
      · rw [if_neg hx, if_neg hy] at h
        generalize hM : (27 : Int) ^ m = M at h3 h4
        have a1 : tph m ((x - 1) / 27) = tph m ((y - 1) / 27) := by omega
        have a2 := tph_inj m (x := (x - 1) / 27) (y := (y - 1) / 27) (by omega) (by omega) (by rw [hM]; omega) (by rw [hM]; omega) a1
        omega
