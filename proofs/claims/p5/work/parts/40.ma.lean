/-! EXACT WALKS: bitOf, bits, heirOf, besides -/
noncomputable section
/-- how many of the first n bits are not set -/
def zun (x : Int) : Nat → Nat
  | 0 => 0
  | n + 1 => zun x n + (if tb x (n : Int) = true then 0 else 1)
def zs182 : vSp := fun vs σ K => match vs with
  | [.inl x, .inl k] => (0 ≤ k ∧ k ≤ 31) ∧ ∀ z : Int, ((z = 1 ∧ tb x k = true) ∨ (z = 0 ∧ tb x k = false)) → K (some (.inl z)) σ
  | _ => False
def zs183 : vSp := fun vs σ K => match vs with
  | [.inl x] => (-2147483648 ≤ x ∧ x ≤ 2147483647) ∧ ∀ z : Int, (0 ≤ z ∧ z ≤ 32) → K (some (.inl z)) σ
  | _ => False
/-- the rooms beside one -/
def zbs (s : Int → Int) (r : Int) : Nat → Int
  | 0 => 0
  | k + 1 => if tb (s 184) (k : Int) = true then zbs s r k else vor (zbs s r k) (if s (29 + (k : Int)) = r then vshl 1 (s (49 + (k : Int))) else if s (49 + (k : Int)) = r then vshl 1 (s (29 + (k : Int))) else 0)
def zbF (s : Int → Int) (r : Int) : Int := zbs s r (s 3).toNat
def zs181 : vSp := fun vs σ K => match vs with
  | [.inr (.inl 12), .inl r] => K (some (.inl (zbF (σ 52) r))) σ
  | _ => False
end
theorem zun_le {x y : Int} : ∀ (n : Nat), (∀ k : Int, 0 ≤ k → k < (n : Int) → tb x k = true → tb y k = true) → zun y n ≤ zun x n
  | 0, _ => Nat.le_refl _
  | n + 1, h => by
    have i := zun_le n (fun k h0 h1 h2 => h k h0 (by omega) h2)
    show zun y n + _ ≤ zun x n + _
    by_cases hx : tb x (n : Int) = true
    · rw [if_pos hx, if_pos (h _ (by omega) (by omega) hx)]
      exact i
    · rw [if_neg hx]
      split <;> omega
theorem zun_lt {x y j : Int} : ∀ (n : Nat), (∀ k : Int, 0 ≤ k → k < (n : Int) → tb x k = true → tb y k = true) → 0 ≤ j → j < (n : Int) → tb x j = false → tb y j = true → zun y n < zun x n
  | 0, _, h0, h1, _, _ => by omega
  | n + 1, h, h0, h1, h2, h3 => by
    show zun y n + _ < zun x n + _
    by_cases hj : j = (n : Int)
    · subst hj
      have i := zun_le (x := x) (y := y) n (fun k h0 h1 h2 => h k h0 (by omega) h2)
      rw [if_pos h3, if_neg (by rw [h2]; exact Bool.false_ne_true)]
      omega
    · have i := zun_lt (x := x) (y := y) (j := j) n (fun k h0 h1 h2 => h k h0 (by omega) h2) h0 (by omega) h2 h3
      by_cases hx : tb x (n : Int) = true
      · rw [if_pos hx, if_pos (h _ (by omega) (by omega) hx)]
        exact i
      · rw [if_neg hx]
        split <;> omega
/-- one bit more -/
theorem zun_set {x j : Int} {n : Nat} (hn : n ≤ 32) (h0 : 0 ≤ j) (h1 : j < (n : Int)) (h2 : tb x j = false) : zun (vor x (vshl 1 j)) n < zun x n := by
  refine zun_lt n (fun k g0 g1 g2 => ?_) h0 h1 h2 ?_
  · rw [tb_set h0 (by omega) g0 (by omega), g2]; rfl
  · rw [tb_set h0 (by omega) h0 (by omega), decide_eq_true rfl, Bool.or_true]
theorem zun_top (x : Int) : ∀ n, zun x n ≤ n
  | 0 => Nat.le_refl _
  | n + 1 => by
    have := zun_top x n
    show zun x n + _ ≤ _
    split <;> omega
theorem vand_rg (x y : Int) : -2147483648 ≤ vand x y ∧ vand x y ≤ 2147483647 := ⟨Int32.le_toInt _, Int32.toInt_le _⟩
theorem vor_rg (x y : Int) : -2147483648 ≤ vor x y ∧ vor x y ≤ 2147483647 := ⟨Int32.le_toInt _, Int32.toInt_le _⟩
theorem vshl_rg (x y : Int) : -2147483648 ≤ vshl x y ∧ vshl x y ≤ 2147483647 := ⟨Int32.le_toInt _, Int32.toInt_le _⟩
theorem zbs_step {s : Int → Int} {r k : Int} (h : 0 ≤ k) : zbs s r (k + 1).toNat = if tb (s 184) k = true then zbs s r k.toNat else vor (zbs s r k.toNat) (if s (29 + k) = r then vshl 1 (s (49 + k)) else if s (49 + k) = r then vshl 1 (s (29 + k)) else 0) := by
  obtain ⟨n, rfl⟩ := Int.eq_ofNat_of_zero_le h
  rfl
/-- the lowest bit of a number falls out -/
theorem bt_low {x : Int32} {n : Nat} (hn : n < 32) (h : ∀ k, k < n → bt x k = false) : ∀ k, k < n + 1 → bt (x &&& (x - 1)) k = false := by
  intro k hk
  rw [b_and]
  by_cases hkn : k < n
  · rw [h k hkn]; rfl
  · have e : k = n := by omega
    subst e
    cases hb : bt x k with
    | false => rfl
    | true =>
      have hx : x.toBitVec.toNat.testBit k = true := hb
      have hlo : x.toBitVec.toNat % 2 ^ k = 0 := by
        apply Nat.eq_of_testBit_eq
        intro i
        rw [Nat.testBit_mod_two_pow, Nat.zero_testBit]
        by_cases hi : i < k
        · have := h i hi
          have this : x.toBitVec.toNat.testBit i = false := this
          rw [this, Bool.and_false]
        · simp [hi]
      have hp : 0 < 2 ^ k := Nat.two_pow_pos k
      have hlt := x.toBitVec.isLt
      rw [Nat.testBit_eq_decide_div_mod_eq] at hx
      have hx : x.toBitVec.toNat / 2 ^ k % 2 = 1 := of_decide_eq_true hx
      have hd := Nat.div_add_mod x.toBitVec.toNat (2 ^ k)
      rw [hlo, Nat.add_zero] at hd
      have hpos : 0 < x.toBitVec.toNat / 2 ^ k := by
        cases hq : x.toBitVec.toNat / 2 ^ k with
        | zero => rw [hq] at hx; cases hx
        | succ n => exact Nat.succ_pos n
      have hX : 0 < x.toBitVec.toNat := by
        rw [← hd]
        exact Nat.mul_pos hp hpos
      have e1 : (x - 1).toBitVec.toNat = x.toBitVec.toNat - 1 := by
        rw [Int32.toBitVec_sub, BitVec.toNat_sub]
        have : (1 : Int32).toBitVec.toNat = 1 := by decide
        rw [this]
        omega
      show (true && (x - 1).toBitVec.toNat.testBit k) = false
      rw [e1, Nat.testBit_eq_decide_div_mod_eq, Bool.true_and]
      apply decide_eq_false
      have e2 : (x.toBitVec.toNat - 1) / 2 ^ k = x.toBitVec.toNat / 2 ^ k - 1 := by
        have e3 : x.toBitVec.toNat - 1 = 2 ^ k * (x.toBitVec.toNat / 2 ^ k - 1) + (2 ^ k - 1) := by
          have : 2 ^ k * (x.toBitVec.toNat / 2 ^ k) = 2 ^ k * (x.toBitVec.toNat / 2 ^ k - 1) + 2 ^ k := by
            rw [← Nat.mul_succ]
            congr 1
            omega
          omega
        rw [e3, Nat.mul_add_div hp, Nat.div_eq_of_lt (Nat.sub_lt hp Nat.one_pos), Nat.add_zero]
      rw [e2]
      generalize x.toBitVec.toNat / 2 ^ k = y at hx hpos ⊢
      omega
theorem tb_ift {v x k : Int} (e : v = if tb x k = true then 1 else 0) (c : v = 1) : tb x k = true := by
  by_cases hc : tb x k = true
  · exact hc
  · rw [if_neg hc] at e; omega
theorem tb_iff {v x k : Int} (e : v = if tb x k = true then 1 else 0) (c : ¬ v = 1) : tb x k = false := by
  by_cases hc : tb x k = true
  · rw [if_pos hc] at e; omega
  · exact Bool.eq_false_iff.mpr hc
theorem tb_low {v n z : Int} (h0 : 0 ≤ n) (h1 : n ≤ 31) (h : ∀ k : Int, 0 ≤ k → k < n → tb v k = false) (hz : z = vsub v 1) : ∀ k : Int, 0 ≤ k → k < n + 1 → tb (vand v z) k = false := by
  intro k k0 k1
  subst hz
  unfold tb vand vsub
  rw [Int32.ofInt_toInt, Int32.ofInt_toInt]
  exact bt_low (n := n.toNat) (by omega) (fun j hj => by
    have := h (j : Int) (by omega) (by omega)
    exact this) k.toNat (by omega)
section Z1
variable {E : zE} {J : List aJ} {md : aMd} {w : va_W} {σ : vS} {K : vK}

theorem z_182 (B : zB E) : zOK E J md w 182 zs182 := by
  intro q hq vs σ K h
  have e0 : gMT 182 = some (gm_182, 2) := rfl
  rw [e0] at hq
  cases hq
  unfold zs182 at h
  split at h
  · rename_i x k
    have e := tb_bit (x := x) h.1.1 h.1.2
    refine zgo B zS_nil [] [] (fun _ => false) (by decide +kernel) ?_
    refine And.intro (fun (c1 : ¬ (vand (vshr x k) 1) = 1) => ?_) (fun (c2 : (vand (vshr x k) 1) = 1) => ?_)
    · refine And.intro (show 0 ≤ 0 ∧ 0 ≤ 1 from by omega) ?_
      show K (some (.inl 0)) σ
      exact h.2 _ (Or.inr ⟨rfl, tb_iff e c1⟩)
    · refine And.intro (show 0 ≤ 1 ∧ 1 ≤ 1 from by omega) ?_
      show K (some (.inl 1)) σ
      exact h.2 _ (Or.inl ⟨rfl, tb_ift e c2⟩)
  · exact absurd h id
theorem z_bits_l (B : zB E) (hK : ∀ z : Int, 0 ≤ z ∧ z ≤ 32 → K (some (.inl z)) σ) : ∀ (m : Nat) (v n : Int), 32 - n < (m : Int) → 0 ≤ n → n ≤ 32 → (-2147483648 ≤ v ∧ v ≤ 2147483647) → (∀ k : Int, 0 ≤ k → k < n → tb v k = false) → zG E J md w gm_183 4 [(1, .inl n), (2, .inl v)] σ K := by
  intro m
  induction m with
  | zero => intro v n h; omega
  | succ m ih =>
    intro v n hm h0 h1 hv hlo
    refine zgo B zS_nil [14] [(4, [1, 2])] (fun _ => true) (by decide +kernel) ?_
    refine And.intro (fun (c1 : v = 0) => ?_) (fun (c2 : ¬ v = 0) => ?_)
    · show K (some (.inl n)) σ
      exact hK _ (by omega)
    · refine And.intro (show -2147483648 ≤ (n + 1) ∧ (n + 1) ≤ 2147483647 from by omega) ?_
      refine fun (z3 : Int) (h4 : -2147483648 ≤ z3 ∧ z3 ≤ 2147483647) (e5 : z3 = vsub v 1) => ?_
      obtain ⟨k, k0, k1, k2⟩ := tb_ne hv.1 hv.2 c2
      have hn : n ≤ 31 := by
        by_cases hq : n ≤ k
        · omega
        · rw [hlo k k0 (by omega)] at k2; cases k2
      exact ih _ (n + 1) (by omega) (by omega) (by omega) (vand_rg _ _) (tb_low h0 hn hlo e5)
theorem z_183 (B : zB E) : zOK E J md w 183 zs183 := by
  intro q hq vs σ K h
  have e0 : gMT 183 = some (gm_183, 3) := rfl
  rw [e0] at hq
  cases hq
  unfold zs183 at h
  split at h
  · rename_i x
    refine zgo B zS_nil [14] [(4, [1, 2])] (fun _ => true) (by decide +kernel) ?_
    exact z_bits_l B h.2 33 x 0 (by omega) (by omega) (by omega) h.1 (fun k h0 h1 => by omega)
  · exact absurd h id
theorem z_heir_l (B : zB E) (hb : vBd (zso E) gST zuq σ) {q : Int} (hK : ∀ z : Int, -1 ≤ z ∧ z ≤ 5 → K (some (.inl z)) σ) : ∀ (m : Nat) (seen o : Int), zun seen 6 < m → (-1 ≤ o ∧ o ≤ 5) → zG E J md w gm_216 17 [(0, .inr (.inl 12)), (1, .inl q), (2, .inl seen), (3, .inl o)] σ K := by
  intro m
  induction m with
  | zero => intro seen o h; omega
  | succ m ih =>
    intro seen o hm ho
    refine zgo B (zS_cons (z_182 B) zS_nil) [] [(17, [0, 1, 2, 3])] (fun m => Nat.beq m.2.2.2.2.1 141) (by decide +kernel) ?_
    refine And.intro (fun (c1 : o < 0) => ?_) (fun (c2 : 0 ≤ o) => ?_)
    · show K (some (.inl (-1))) σ
      exact hK _ (by omega)
    · refine And.intro (show 0 ≤ o ∧ o ≤ 31 from by omega) (fun (z3 : Int) (h4 : (z3 = 1 ∧ tb seen o = true) ∨ (z3 = 0 ∧ tb seen o = false)) => ?_)
      rcases h4 with ⟨rfl, t5⟩ | ⟨rfl, t5⟩
      · refine And.intro (fun _ => ?_) (fun (q : 1 = 0) => absurd q (by decide))
        show K (some (.inl (-1))) σ
        exact hK _ (by omega)
      · refine And.intro (fun (q : ¬ 0 = 0) => absurd q (by decide)) (fun _ => ?_)
        refine And.intro (show 0 ≤ 180 ∧ 180 < 402 from by omega) ?_
        have f6 : (-2147483648) ≤ σ 52 180 ∧ σ 52 180 ≤ 2147483647 := zb B hb (t := 52) (a := 179) (n := 185) (i := 180) (by decide +kernel) (by omega) (by omega)
        refine And.intro (show 0 ≤ o ∧ o ≤ 31 from by omega) (fun (z7 : Int) (h8 : (z7 = 1 ∧ tb (σ 52 180) o = true) ∨ (z7 = 0 ∧ tb (σ 52 180) o = false)) => ?_)
        rcases h8 with ⟨rfl, t9⟩ | ⟨rfl, t9⟩
        · refine And.intro (show 0 ≤ 1 ∧ 1 ≤ 1 from by omega) ?_
          refine And.intro (fun _ => ?_) (fun (q : 1 = 0) => absurd q (by decide))
          refine And.intro (show -2147483648 ≤ (209 + o) ∧ (209 + o) ≤ 2147483647 from by omega) ?_
          refine And.intro (show 0 ≤ (209 + o) ∧ (209 + o) < 402 from by omega) ?_
          have f10 : 0 ≤ σ 52 (209 + o) ∧ σ 52 (209 + o) ≤ 6 := zb B hb (t := 52) (a := 209) (n := 215) (i := 209 + o) (by decide +kernel) (by omega) (by omega)
          refine And.intro (show -2147483648 ≤ ((σ 52 (209 + o)) - 1) ∧ ((σ 52 (209 + o)) - 1) ≤ 2147483647 from by omega) ?_
          show zG E J md w gm_216 17 [(0, .inr (.inl 12)), (1, .inl q), (2, .inl (vor seen (vshl 1 o))), (3, .inl ((σ 52 (209 + o)) - 1))] σ K
          have := zun_set (x := seen) (j := o) (n := 6) (by omega) (by omega) (by omega) (by assumption)
          exact ih _ _ (by omega) (by omega)
        · refine And.intro (show 0 ≤ 0 ∧ 0 ≤ 1 from by omega) ?_
          refine And.intro (fun (q : ¬ 0 = 0) => absurd q (by decide)) (fun _ => ?_)
          show K (some (.inl o)) σ
          exact hK _ (by omega)
noncomputable def zs216 : vSp := fun vs σ K => match vs with
  | [.inr (.inl 12), .inl q] => (0 ≤ q ∧ q ≤ 5) ∧ ∀ z : Int, (-1 ≤ z ∧ z ≤ 5) → K (some (.inl z)) σ
  | _ => False
theorem z_216 (B : zB E) : zOK E J md w 216 zs216 := by
  intro q hq vs σ K h
  have e0 : gMT 216 = some (gm_216, 4) := rfl
  rw [e0] at hq
  cases hq
  unfold zs216 at h
  split at h
  · rename_i q
    have h1 := h.1
    refine zbd (fun hb => zgo B (zS_cons (z_182 B) zS_nil) [] [(17, [0, 1, 2, 3])] (fun m => Nat.beq m.2.2.2.2.1 141) (by decide +kernel) ?_)
    refine And.intro (show -2147483648 ≤ (209 + q) ∧ (209 + q) ≤ 2147483647 from by omega) ?_
    refine And.intro (show 0 ≤ (209 + q) ∧ (209 + q) < 402 from by omega) ?_
    have f1 : 0 ≤ σ 52 (209 + q) ∧ σ 52 (209 + q) ≤ 6 := zb B hb (t := 52) (a := 209) (n := 215) (i := 209 + q) (by decide +kernel) (by omega) (by omega)
    refine And.intro (show -2147483648 ≤ ((σ 52 (209 + q)) - 1) ∧ ((σ 52 (209 + q)) - 1) ≤ 2147483647 from by omega) ?_
    show zG E J md w gm_216 17 [(0, .inr (.inl 12)), (1, .inl q), (2, .inl (vshl 1 q)), (3, .inl ((σ 52 (209 + q)) - 1))] σ K
    have := zun_top (vshl 1 q) 6
    exact z_heir_l B hb h.2 7 _ _ (by omega) (by omega)
  · exact absurd h id
theorem z_bes_l (B : zB E) (hb : vBd (zso E) gST zuq σ) {r : Int} (hK : K (some (.inl (zbF (σ 52) r))) σ) : ∀ (m : Nat) (k : Int), σ 52 3 - k < (m : Int) → 0 ≤ k → k ≤ σ 52 3 → zG E J md w gm_181 4 [(0, .inr (.inl 12)), (1, .inl r), (2, .inl (zbs (σ 52) r k.toNat)), (3, .inl k)] σ K := by
  intro m
  induction m with
  | zero => intro k h; omega
  | succ m ih =>
    intro k hm h0 h1
    refine zgo B (zS_cons (z_182 B) zS_nil) [] [(4, [0, 1, 2, 3])] (fun m => Nat.beq m.2.2.2.2.1 120) (by decide +kernel) ?_
    refine And.intro (show 0 ≤ 3 ∧ 3 < 402 from by omega) ?_
    have f1 : 0 ≤ σ 52 3 ∧ σ 52 3 ≤ 20 := zb B hb (t := 52) (a := 3) (n := 4) (i := 3) (by decide +kernel) (by omega) (by omega)
    refine And.intro (fun (c2 : (σ 52 3) ≤ k) => ?_) (fun (c3 : k < (σ 52 3)) => ?_)
    · show K (some (.inl (zbs (σ 52) r k.toNat))) σ
      have e : zbF (σ 52) r = zbs (σ 52) r k.toNat := by
        unfold zbF
        congr 1
        omega
      rw [← e]
      exact hK
    · refine And.intro (show 0 ≤ 184 ∧ 184 < 402 from by omega) ?_
      have f4 : (-2147483648) ≤ σ 52 184 ∧ σ 52 184 ≤ 2147483647 := zb B hb (t := 52) (a := 179) (n := 185) (i := 184) (by decide +kernel) (by omega) (by omega)
      refine And.intro (show 0 ≤ k ∧ k ≤ 31 from by omega) (fun (z5 : Int) (h6 : (z5 = 1 ∧ tb (σ 52 184) k = true) ∨ (z5 = 0 ∧ tb (σ 52 184) k = false)) => ?_)
      rcases h6 with ⟨rfl, t7⟩ | ⟨rfl, t7⟩
      · refine And.intro (fun (q : 1 = 0) => absurd q (by decide)) (fun _ => ?_)
        refine And.intro (show -2147483648 ≤ (k + 1) ∧ (k + 1) ≤ 2147483647 from by omega) ?_
        show zG E J md w gm_181 4 [(0, .inr (.inl 12)), (1, .inl r), (2, .inl (zbs (σ 52) r k.toNat)), (3, .inl (k + 1))] σ K
        rw [show zbs (σ 52) r k.toNat = zbs (σ 52) r (k + 1).toNat from by rw [zbs_step h0]; simp [*]]
        exact ih (k + 1) (by omega) (by omega) (by omega)
      · refine And.intro (fun _ => ?_) (fun (q : ¬ 0 = 0) => absurd q (by decide))
        refine And.intro (show -2147483648 ≤ (29 + k) ∧ (29 + k) ≤ 2147483647 from by omega) ?_
        refine And.intro (show 0 ≤ (29 + k) ∧ (29 + k) < 402 from by omega) ?_
        have f8 : 0 ≤ σ 52 (29 + k) ∧ σ 52 (29 + k) ≤ 11 := zb B hb (t := 52) (a := 29) (n := 69) (i := 29 + k) (by decide +kernel) (by omega) (by omega)
        refine And.intro (fun (c9 : ¬ (σ 52 (29 + k)) = r) => ?_) (fun (c10 : (σ 52 (29 + k)) = r) => ?_)
        · refine And.intro (show -2147483648 ≤ (49 + k) ∧ (49 + k) ≤ 2147483647 from by omega) ?_
          refine And.intro (show 0 ≤ (49 + k) ∧ (49 + k) < 402 from by omega) ?_
          have f11 : 0 ≤ σ 52 (49 + k) ∧ σ 52 (49 + k) ≤ 11 := zb B hb (t := 52) (a := 29) (n := 69) (i := 49 + k) (by decide +kernel) (by omega) (by omega)
          refine And.intro (fun (c12 : ¬ (σ 52 (49 + k)) = r) => ?_) (fun (c13 : (σ 52 (49 + k)) = r) => ?_)
          · refine And.intro (show -2147483648 ≤ (k + 1) ∧ (k + 1) ≤ 2147483647 from by omega) ?_
            show zG E J md w gm_181 4 [(0, .inr (.inl 12)), (1, .inl r), (2, .inl (vor (zbs (σ 52) r k.toNat) 0)), (3, .inl (k + 1))] σ K
            rw [show vor (zbs (σ 52) r k.toNat) 0 = zbs (σ 52) r (k + 1).toNat from by rw [zbs_step h0]; simp [*]]
            exact ih (k + 1) (by omega) (by omega) (by omega)
          · refine And.intro (show -2147483648 ≤ (29 + k) ∧ (29 + k) ≤ 2147483647 from by omega) ?_
            refine And.intro (show 0 ≤ (29 + k) ∧ (29 + k) < 402 from by omega) ?_
            refine And.intro (show -2147483648 ≤ (k + 1) ∧ (k + 1) ≤ 2147483647 from by omega) ?_
            show zG E J md w gm_181 4 [(0, .inr (.inl 12)), (1, .inl r), (2, .inl (vor (zbs (σ 52) r k.toNat) (vshl 1 (σ 52 (29 + k))))), (3, .inl (k + 1))] σ K
            rw [show vor (zbs (σ 52) r k.toNat) (vshl 1 (σ 52 (29 + k))) = zbs (σ 52) r (k + 1).toNat from by rw [zbs_step h0]; simp [*]]
            exact ih (k + 1) (by omega) (by omega) (by omega)
        · refine And.intro (show -2147483648 ≤ (49 + k) ∧ (49 + k) ≤ 2147483647 from by omega) ?_
          refine And.intro (show 0 ≤ (49 + k) ∧ (49 + k) < 402 from by omega) ?_
          have f14 : 0 ≤ σ 52 (49 + k) ∧ σ 52 (49 + k) ≤ 11 := zb B hb (t := 52) (a := 29) (n := 69) (i := 49 + k) (by decide +kernel) (by omega) (by omega)
          refine And.intro (show -2147483648 ≤ (k + 1) ∧ (k + 1) ≤ 2147483647 from by omega) ?_
          show zG E J md w gm_181 4 [(0, .inr (.inl 12)), (1, .inl r), (2, .inl (vor (zbs (σ 52) r k.toNat) (vshl 1 (σ 52 (49 + k))))), (3, .inl (k + 1))] σ K
          rw [show vor (zbs (σ 52) r k.toNat) (vshl 1 (σ 52 (49 + k))) = zbs (σ 52) r (k + 1).toNat from by rw [zbs_step h0]; simp [*]]
          exact ih (k + 1) (by omega) (by omega) (by omega)
theorem z_181 (B : zB E) : zOK E J md w 181 zs181 := by
  intro q hq vs σ K h
  have e0 : gMT 181 = some (gm_181, 4) := rfl
  rw [e0] at hq
  cases hq
  unfold zs181 at h
  split at h
  · rename_i r
    refine zbd (fun hb => zgo B (zS_cons (z_182 B) zS_nil) [] [(4, [0, 1, 2, 3])] (fun m => Nat.beq m.2.2.2.2.1 120) (by decide +kernel) ?_)
    show zG E J md w gm_181 4 [(0, .inr (.inl 12)), (1, .inl r), (2, .inl 0), (3, .inl 0)] σ K
    have f := zb B hb (t := 52) (a := 3) (n := 4) (i := 3) (lo := 0) (hi := 20) (by decide +kernel) (by omega) (by omega)
    exact z_bes_l B hb h 21 0 (by omega) (by omega) (by omega)
  · exact absurd h id
end Z1
