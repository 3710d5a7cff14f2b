/-! EXACT WALKS: pointsTo, exchanges -/
noncomputable section
def zs254 : vSp := fun vs σ K => match vs with
  | [.inr (.inl 12), .inl q, .inl left] => ((0 ≤ q ∧ q ≤ 5) ∧ tb left q = true) ∧ ∀ z : Int, ((0 ≤ z ∧ z ≤ 5) ∧ tb left z = true) → K (some (.inl z)) σ
  | _ => False
def zit (P : Int → Int) (x : Int) : Nat → Int
  | 0 => x
  | n + 1 => P (zit P x n)
def zCy (P : Int → Int) (x : Int) : Prop := ∃ m : Nat, zit P x (m + 1) = x
def zl (left N : Int) : Prop := ∀ k : Int, 0 ≤ k → k ≤ 31 → tb left k = true → k < N
/-- walked from q: so far to o, by those of the ring -/
def zRg (P : Int → Int) (q left ring o : Int) (j : Nat) : Prop := o = zit P q j ∧ tb left o = true ∧ (0 ≤ o ∧ o ≤ 5) ∧ tb ring o = false ∧ (∀ k : Int, 0 ≤ k → k ≤ 5 → (tb ring k = true ↔ ∃ i : Nat, i < j ∧ zit P q i = k)) ∧ ∀ a b : Nat, a < b → b ≤ j → ¬ zit P q a = zit P q b
def zQ1 (P : Int → Int) (left gone q : Int) : Prop := ∀ j : Int, 0 ≤ j → j < q → tb left j = true → zCy P j → tb gone j = true
def zQ2 (P : Int → Int) (left q : Int) : Prop := (∃ j : Int, 0 ≤ j ∧ j < q ∧ tb left j = true) → ∃ c : Int, (0 ≤ c ∧ c ≤ 5) ∧ tb left c = true ∧ zCy P c
def md204 : aMd := gc_204_0.2.2.2
end
theorem zit_add (P : Int → Int) (x : Int) (i : Nat) : ∀ k : Nat, zit P (zit P x i) k = zit P x (i + k)
  | 0 => rfl
  | k + 1 => by
    show P (zit P (zit P x i) k) = P (zit P x (i + k))
    rw [zit_add P x i k]
theorem zit_per {P : Int → Int} {x : Int} {p : Nat} (h : zit P x p = x) (a : Nat) : ∀ t : Nat, zit P x (a + p * t) = zit P x a
  | 0 => rfl
  | t + 1 => by
    have e : a + p * (t + 1) = p + (a + p * t) := by rw [Nat.mul_succ]; omega
    rw [e, ← zit_add, h]
    exact zit_per h a t
theorem zit_cyc {P : Int → Int} {x : Int} {m j i : Nat} (hc : zit P x (m + 1) = x) (hd : ∀ a b : Nat, a < b → b ≤ j → ¬ zit P x a = zit P x b) (he : zit P x (j + 1) = zit P x i) (hi : i ≤ j) : zit P x (j + 1) = x := by
  cases i with
  | zero => exact he
  | succ i =>
    exfalso
    have h1 : zit P x ((j + 1) + ((m + 1) * (i + 1) - (i + 1))) = x := by
      rw [← zit_add, he, zit_add]
      have e : (i + 1) + ((m + 1) * (i + 1) - (i + 1)) = 0 + (m + 1) * (i + 1) := by
        rw [Nat.succ_mul]
        omega
      rw [e, zit_per hc]
      rfl
    have e2 : (j + 1) + ((m + 1) * (i + 1) - (i + 1)) = (j - i) + (m + 1) * (i + 1) := by
      rw [Nat.succ_mul]
      omega
    rw [e2, zit_per hc] at h1
    exact hd 0 (j - i) (by omega) (by omega) h1.symm
section ZX
variable {P : Int → Int} {q left ring o gone N : Int} {j : Nat}
theorem zRg_0 (h : tb left q = true) (h0 : 0 ≤ q ∧ q ≤ 5) : zRg P q left 0 q 0 := ⟨rfl, h, h0, tb_0 _, fun k _ _ => ⟨fun h => (by rw [tb_0] at h; cases h), fun ⟨i, hi, _⟩ => absurd hi (Nat.not_lt_zero _)⟩, fun a b h1 h2 => by omega⟩
theorem zRg_mem (h : zRg P q left ring o j) {k : Int} (k0 : 0 ≤ k) (k1 : k ≤ 5) : tb (vor ring (vshl 1 o)) k = true ↔ ∃ i : Nat, i < j + 1 ∧ zit P q i = k := by
  obtain ⟨h1, h2, h3, h4, h5, h6⟩ := h
  rw [tb_set h3.1 (by omega) k0 (by omega), Bool.or_eq_true, h5 k k0 k1, decide_eq_true_eq]
  constructor
  · rintro (⟨i, a, b⟩ | rfl)
    · exact ⟨i, by omega, b⟩
    · exact ⟨j, by omega, h1.symm⟩
  · rintro ⟨i, a, b⟩
    by_cases hi : i = j
    · subst hi
      exact Or.inr (by rw [h1]; exact b.symm)
    · exact Or.inl ⟨i, by omega, b⟩
theorem zRg_s (h : zRg P q left ring o j) (hP : (0 ≤ P o ∧ P o ≤ 5) ∧ tb left (P o) = true) (hn : tb (vor ring (vshl 1 o)) (P o) = false) : zRg P q left (vor ring (vshl 1 o)) (P o) (j + 1) := by
  have hm := @zRg_mem P q left ring o j h
  have e : P o = zit P q (j + 1) := by
    show P o = P (zit P q j)
    rw [← h.1]
  refine ⟨e, hP.2, hP.1, hn, fun k a b => hm a b, fun a b hab hb => ?_⟩
  by_cases hbj : b = j + 1
  · subst hbj
    intro he
    have := (hm hP.1.1 hP.1.2).mpr ⟨a, hab, by rw [he, ← e]⟩
    rw [hn] at this
    cases this
  · exact h.2.2.2.2.2 a b hab (by omega)
/-- the walk's end -/
theorem zRg_e (h : zRg P q left ring o j) (hP : (0 ≤ P o ∧ P o ≤ 5) ∧ tb left (P o) = true) (ht : tb (vor ring (vshl 1 o)) (P o) = true) : (zCy P (P o)) ∧ (zCy P q → P o = q) := by
  obtain ⟨i, hi, he⟩ := (zRg_mem h hP.1.1 hP.1.2).mp ht
  have e : P o = zit P q (j + 1) := by
    show P o = P (zit P q j)
    rw [← h.1]
  constructor
  · refine ⟨j - i, ?_⟩
    rw [← he, zit_add]
    have e2 : i + (j - i + 1) = j + 1 := by omega
    rw [e2, ← e, he]
  · rintro ⟨m, hm⟩
    rw [e]
    exact zit_cyc (i := i) hm h.2.2.2.2.2 (e.symm.trans he.symm) (by omega)
theorem zQ_no (h1 : zQ1 P left gone q) (h2 : zQ2 P left q) (h : tb left q = false) : zQ1 P left gone (q + 1) ∧ zQ2 P left (q + 1) := by
  constructor
  · intro j j0 j1 j2 j3
    by_cases hj : j = q
    · subst hj; rw [h] at j2; cases j2
    · exact h1 j j0 (by omega) j2 j3
  · rintro ⟨j, j0, j1, j2⟩
    by_cases hj : j = q
    · subst hj; rw [h] at j2; cases j2
    · exact h2 ⟨j, j0, by omega, j2⟩
theorem zQ_1 (h1 : zQ1 P left gone q) (hn : ¬ zCy P q) : zQ1 P left gone (q + 1) := by
  intro j j0 j1 j2 j3
  by_cases hj : j = q
  · subst hj; exact absurd j3 hn
  · exact h1 j j0 (by omega) j2 j3
theorem zQ_1s (h0 : 0 ≤ q ∧ q ≤ 5) (h1 : zQ1 P left gone q) : zQ1 P left (vor gone (vshl 1 q)) (q + 1) := by
  intro j j0 j1 j2 j3
  rw [tb_set h0.1 (by omega) j0 (by omega), Bool.or_eq_true, decide_eq_true_eq]
  by_cases hj : j = q
  · exact Or.inr hj
  · exact Or.inl (h1 j j0 (by omega) j2 j3)
theorem zl_or (h : zl left N) (h0 : 0 ≤ q) (h1 : q < N) (h2 : N ≤ 6) : zl (vor left (vshl 1 q)) N := by
  intro k k0 k1 k2
  rw [tb_set h0 (by omega) k0 k1, Bool.or_eq_true, decide_eq_true_eq] at k2
  rcases k2 with k2 | rfl
  · exact h k k0 k1 k2
  · exact h1
theorem zl_or0 (h : zl left N) : zl (vor left 0) N := by
  intro k k0 k1 k2
  rw [tb_or, tb_0, Bool.or_false] at k2
  exact h k k0 k1 k2
theorem zl_0 : zl 0 N := fun k _ _ h => by rw [tb_0] at h; cases h
theorem tb_out {k : Int} (h : k ≤ 31) : tb (vand left (vxor gone (-1))) k = (tb left k && !tb gone k) := by
  rw [tb_and, tb_xor, tb_m1 h, Bool.xor_true]
theorem zl_out (h : zl left N) : zl (vand left (vxor gone (-1))) N := by
  intro k k0 k1 k2
  rw [tb_out k1, Bool.and_eq_true] at k2
  exact h k k0 k1 k2.1
/-- a round takes one out -/
theorem zQ_out (hl : zl left N) (hN : N ≤ 6) (hr : -2147483648 ≤ left ∧ left ≤ 2147483647) (hne : ¬ left = 0) (h1 : zQ1 P left gone N) (h2 : zQ2 P left N) : zun left 6 < zun (vand left (vxor gone (-1))) 6 := by
  obtain ⟨k, k0, k1, k2⟩ := tb_ne hr.1 hr.2 hne
  obtain ⟨c, c0, c1, c2⟩ := h2 ⟨k, k0, hl k k0 k1 k2, k2⟩
  have hc := h1 c c0.1 (hl c c0.1 (by omega) c1) c1 c2
  refine zun_lt (j := c) 6 (fun k k0 k1 k2 => ?_) c0.1 (by omega) ?_ c1
  · rw [tb_out (by omega), Bool.and_eq_true] at k2
    exact k2.1
  · rw [tb_out (by omega), hc]
    simp
end ZX
section Z5
variable {E : zE} {J : List aJ} {md : aMd} {w : va_W} {σ : vS} {K : vK}
theorem z_poi2 (B : zB E) (hb : vBd (zso E) gST zuq σ) {q left : Int} (hq : 0 ≤ q ∧ q ≤ 5) {r : Int} (r0 : 0 ≤ r ∧ r ≤ 11) (hN : ∀ best : Int, (0 ≤ best ∧ best ≤ 5) → tb left best = true → zG E J md w gm_254 5 [(0, .inr (.inl 12)), (1, .inl q), (2, .inl left), (3, .inl best), (4, .inl (r + 1))] σ K) : ∀ (m : Nat) (best o : Int), 6 - o < (m : Int) → 0 ≤ o → o ≤ 6 → (0 ≤ best ∧ best ≤ 5) → tb left best = true → zG E J md w gm_254 19 [(0, .inr (.inl 12)), (1, .inl q), (2, .inl left), (3, .inl best), (4, .inl r), (5, .inl o)] σ K := by
  intro m
  induction m with
  | zero => intro best o h; omega
  | succ m ih =>
    intro best o hm h0 h1 hb0 hb1
    refine zgo B (zS_cons (z_182 B) zS_nil) [] [(5, [0, 1, 2, 3, 4]), (19, [0, 1, 2, 3, 4, 5])] (fun m => Nat.beq m.2.2.2.2.1 120) (by decide +kernel) ?_
    refine And.intro (show 0 ≤ 1 ∧ 1 < 402 from by omega) ?_
    have f1 : 0 ≤ σ 52 1 ∧ σ 52 1 ≤ 6 := zb B hb (t := 52) (a := 0) (n := 2) (i := 1) (by decide +kernel) (by omega) (by omega)
    refine And.intro (fun (c2 : (σ 52 1) ≤ o) => ?_) (fun (c3 : o < (σ 52 1)) => ?_)
    · refine And.intro (show -2147483648 ≤ (r + 1) ∧ (r + 1) ≤ 2147483647 from by omega) ?_
      show zG E J md w gm_254 5 [(0, .inr (.inl 12)), (1, .inl q), (2, .inl left), (3, .inl best), (4, .inl (r + 1))] σ K
      exact hN best hb0 hb1
    · refine And.intro (show 0 ≤ o ∧ o ≤ 31 from by omega) (fun (z4 : Int) (h5 : (z4 = 1 ∧ tb left o = true) ∨ (z4 = 0 ∧ tb left o = false)) => ?_)
      rcases h5 with ⟨rfl, t6⟩ | ⟨rfl, t6⟩
      · refine And.intro (fun (q : 1 = 0) => absurd q (by decide)) (fun _ => ?_)
        refine And.intro (show 0 ≤ o ∧ o < 6 from by omega) ?_
        have f7 : (-1) ≤ σ 65 o ∧ σ 65 o ≤ 11 := zb B hb (t := 65) (a := 0) (n := 6) (i := o) (by decide +kernel) (by omega) (by omega)
        refine And.intro (fun (c8 : ¬ (σ 65 o) = r) => ?_) (fun (c9 : (σ 65 o) = r) => ?_)
        · refine And.intro (show -2147483648 ≤ (o + 1) ∧ (o + 1) ≤ 2147483647 from by omega) ?_
          show zG E J md w gm_254 19 [(0, .inr (.inl 12)), (1, .inl q), (2, .inl left), (3, .inl best), (4, .inl r), (5, .inl (o + 1))] σ K
          exact ih best (o + 1) (by omega) (by omega) (by omega) hb0 hb1
        · refine And.intro (fun (c10 : ¬ o = q) => ?_) (fun (c11 : o = q) => ?_)
          · refine And.intro (show -2147483648 ≤ (12 * q) ∧ (12 * q) ≤ 2147483647 from by omega) ?_
            refine And.intro (show -2147483648 ≤ (107 + (12 * q)) ∧ (107 + (12 * q)) ≤ 2147483647 from by omega) ?_
            refine And.intro (show -2147483648 ≤ ((107 + (12 * q)) + r) ∧ ((107 + (12 * q)) + r) ≤ 2147483647 from by omega) ?_
            refine And.intro (show 0 ≤ ((107 + (12 * q)) + r) ∧ ((107 + (12 * q)) + r) < 402 from by omega) ?_
            have f12 : 0 ≤ σ 52 ((107 + (12 * q)) + r) ∧ σ 52 ((107 + (12 * q)) + r) ≤ 9 := zb B hb (t := 52) (a := 107) (n := 179) (i := (107 + (12 * q)) + r) (by decide +kernel) (by omega) (by omega)
            refine And.intro (show 0 ≤ best ∧ best < 6 from by omega) ?_
            have f13 : (-1) ≤ σ 65 best ∧ σ 65 best ≤ 11 := zb B hb (t := 65) (a := 0) (n := 6) (i := best) (by decide +kernel) (by omega) (by omega)
            refine And.intro (show -2147483648 ≤ (12 * q) ∧ (12 * q) ≤ 2147483647 from by omega) ?_
            refine And.intro (show -2147483648 ≤ (107 + (12 * q)) ∧ (107 + (12 * q)) ≤ 2147483647 from by omega) ?_
            refine And.intro (show -2147483648 ≤ ((107 + (12 * q)) + (σ 65 best)) ∧ ((107 + (12 * q)) + (σ 65 best)) ≤ 2147483647 from by omega) ?_
            refine And.intro (show 0 ≤ ((107 + (12 * q)) + (σ 65 best)) ∧ ((107 + (12 * q)) + (σ 65 best)) < 402 from by omega) ?_
            refine And.intro (fun (c14 : (σ 52 ((107 + (12 * q)) + r)) ≤ (σ 52 ((107 + (12 * q)) + (σ 65 best)))) => ?_) (fun (c15 : (σ 52 ((107 + (12 * q)) + (σ 65 best))) < (σ 52 ((107 + (12 * q)) + r))) => ?_)
            · refine And.intro (show -2147483648 ≤ (o + 1) ∧ (o + 1) ≤ 2147483647 from by omega) ?_
              show zG E J md w gm_254 19 [(0, .inr (.inl 12)), (1, .inl q), (2, .inl left), (3, .inl best), (4, .inl r), (5, .inl (o + 1))] σ K
              exact ih best (o + 1) (by omega) (by omega) (by omega) hb0 hb1
            · refine And.intro (show -2147483648 ≤ (o + 1) ∧ (o + 1) ≤ 2147483647 from by omega) ?_
              show zG E J md w gm_254 19 [(0, .inr (.inl 12)), (1, .inl q), (2, .inl left), (3, .inl o), (4, .inl r), (5, .inl (o + 1))] σ K
              exact ih o (o + 1) (by omega) (by omega) (by omega) (by omega) (by assumption)
          · refine And.intro (show -2147483648 ≤ (o + 1) ∧ (o + 1) ≤ 2147483647 from by omega) ?_
            show zG E J md w gm_254 19 [(0, .inr (.inl 12)), (1, .inl q), (2, .inl left), (3, .inl best), (4, .inl r), (5, .inl (o + 1))] σ K
            exact ih best (o + 1) (by omega) (by omega) (by omega) hb0 hb1
      · refine And.intro (fun _ => ?_) (fun (q : ¬ 0 = 0) => absurd q (by decide))
        refine And.intro (show -2147483648 ≤ (o + 1) ∧ (o + 1) ≤ 2147483647 from by omega) ?_
        show zG E J md w gm_254 19 [(0, .inr (.inl 12)), (1, .inl q), (2, .inl left), (3, .inl best), (4, .inl r), (5, .inl (o + 1))] σ K
        exact ih best (o + 1) (by omega) (by omega) (by omega) hb0 hb1
theorem z_poi1 (B : zB E) (hb : vBd (zso E) gST zuq σ) {q left : Int} (hq : 0 ≤ q ∧ q ≤ 5) (hK : ∀ z : Int, ((0 ≤ z ∧ z ≤ 5) ∧ tb left z = true) → K (some (.inl z)) σ) : ∀ (m : Nat) (best r : Int), 12 - r < (m : Int) → 0 ≤ r → r ≤ 12 → (0 ≤ best ∧ best ≤ 5) → tb left best = true → zG E J md w gm_254 5 [(0, .inr (.inl 12)), (1, .inl q), (2, .inl left), (3, .inl best), (4, .inl r)] σ K := by
  intro m
  induction m with
  | zero => intro best r h; omega
  | succ m ih =>
    intro best r hm h0 h1 hb0 hb1
    refine zgo B (zS_cons (z_182 B) zS_nil) [] [(5, [0, 1, 2, 3, 4]), (19, [0, 1, 2, 3, 4, 5])] (fun m => Nat.beq m.2.2.2.2.1 120) (by decide +kernel) ?_
    refine And.intro (show 0 ≤ 2 ∧ 2 < 402 from by omega) ?_
    have f1 : 0 ≤ σ 52 2 ∧ σ 52 2 ≤ 12 := zb B hb (t := 52) (a := 2) (n := 3) (i := 2) (by decide +kernel) (by omega) (by omega)
    refine And.intro (fun (c2 : (σ 52 2) ≤ r) => ?_) (fun (c3 : r < (σ 52 2)) => ?_)
    · show K (some (.inl best)) σ
      exact hK _ ⟨hb0, hb1⟩
    · show zG E J md w gm_254 19 [(0, .inr (.inl 12)), (1, .inl q), (2, .inl left), (3, .inl best), (4, .inl r), (5, .inl 0)] σ K
      exact z_poi2 B hb hq (by omega) (fun b2 a1 a2 => ih b2 (r + 1) (by omega) (by omega) (by omega) a1 a2) 7 best 0 (by omega) (by omega) (by omega) hb0 hb1
theorem z_254 (B : zB E) : zOK E J md w 254 zs254 := by
  intro q hq vs σ K h
  have e0 : gMT 254 = some (gm_254, 6) := rfl
  rw [e0] at hq
  cases hq
  unfold zs254 at h
  split at h
  · rename_i q left
    refine zbd (fun hb => ?_)
    refine zgo B (zS_cons (z_182 B) zS_nil) [] [(5, [0, 1, 2, 3, 4]), (19, [0, 1, 2, 3, 4, 5])] (fun m => Nat.beq m.2.2.2.2.1 120) (by decide +kernel) ?_
    show zG E J md w gm_254 5 [(0, .inr (.inl 12)), (1, .inl q), (2, .inl left), (3, .inl q), (4, .inl 0)] σ K
    exact z_poi1 B hb h.1.1 h.2 13 q 0 (by omega) (by omega) (by omega) h.1.1 h.1.2
  · exact absurd h id
theorem z_exc6 (B : zB E) {σ0 : vS} {N : Int} (n0 : 0 ≤ N ∧ N ≤ 6) {left q gone : Int} (hl : zl left N) (hq : 0 ≤ q ∧ q ≤ 5) (hN : ∀ (gone : Int) (σ : vS), σ 52 1 = N → zfr [12, 65, 66, 67] σ0 σ → (∀ j : Int, 0 ≤ j → j < N → tb left j = true → (0 ≤ σ 67 j ∧ σ 67 j ≤ 5) ∧ tb left (σ 67 j) = true) → zQ1 (σ 67) left gone (q + 1) → zQ2 (σ 67) left (q + 1) → zG E gJ1 md204 w gm_204 162 [(0, .inr (.inl 12)), (1, .inl left), (2, .inl gone), (3, .inl (q + 1))] σ K) {σ : vS} (hn : σ 52 1 = N) (hf : zfr [12, 65, 66, 67] σ0 σ) (hP : (∀ j : Int, 0 ≤ j → j < N → tb left j = true → (0 ≤ σ 67 j ∧ σ 67 j ≤ 5) ∧ tb left (σ 67 j) = true)) (h1 : zQ1 (σ 67) left gone q) : ∀ (m : Nat) (ring o : Int) (k : Nat), zun ring 6 < m → zRg (σ 67) q left ring o k → zG E gJ1 md204 w gm_204 189 [(0, .inr (.inl 12)), (1, .inl left), (2, .inl gone), (3, .inl q), (4, .inl ring), (5, .inl o)] σ K := by
  intro m
  induction m with
  | zero => intro ring o k h; omega
  | succ m ih =>
    intro ring o k hm hR
    have ho := hR.2.2.1
    have hPo := hP o ho.1 (hl o ho.1 (by omega) hR.2.1) hR.2.1
    refine zbd (fun hb => zgo B (zS_cons (z_254 B) (zS_cons (z_183 B) (zS_cons (z_182 B) zS_nil))) [264, 275] [(9, [0, 1, 2]), (42, [0, 1, 2, 3]), (116, [0, 1]), (124, [0, 1, 2, 3]), (162, [0, 1, 2, 3]), (189, [0, 1, 2, 3, 4, 5])] (fun m => Nat.beq m.2.2.2.2.1 145) (by decide +kernel) ?_)
    refine And.intro (show 0 ≤ o ∧ o < 6 from by omega) ?_
    have f1 : 0 ≤ σ 67 o ∧ σ 67 o ≤ 5 := zb B hb (t := 67) (a := 0) (n := 6) (i := o) (by decide +kernel) (by omega) (by omega)
    refine And.intro (show 0 ≤ (σ 67 o) ∧ (σ 67 o) ≤ 31 from by omega) (fun (z2 : Int) (h3 : (z2 = 1 ∧ tb (vor ring (vshl 1 o)) (σ 67 o) = true) ∨ (z2 = 0 ∧ tb (vor ring (vshl 1 o)) (σ 67 o) = false)) => ?_)
    rcases h3 with ⟨rfl, t4⟩ | ⟨rfl, t4⟩
    · refine And.intro (fun (q : 1 = 0) => absurd q (by decide)) (fun _ => ?_)
      refine And.intro (fun (c5 : (σ 67 o) = q) => ?_) (fun (c6 : ¬ (σ 67 o) = q) => ?_)
      · refine And.intro (show 0 ≤ q ∧ q < 6 from by omega) ?_
        have f7 : 0 ≤ σ 67 q ∧ σ 67 q ≤ 5 := zb B hb (t := 67) (a := 0) (n := 6) (i := q) (by decide +kernel) (by omega) (by omega)
        refine And.intro (show 0 ≤ (σ 67 q) ∧ (σ 67 q) < 6 from by omega) ?_
        have f8 : (-1) ≤ σ 65 (σ 67 q) ∧ σ 65 (σ 67 q) ≤ 11 := zb B hb (t := 65) (a := 0) (n := 6) (i := σ 67 q) (by decide +kernel) (by omega) (by omega)
        refine And.intro (show 0 ≤ q ∧ q < 6 from by omega) ?_
        refine And.intro (show Int.negSucc 0 ≤ (σ 65 (σ 67 q)) ∧ (σ 65 (σ 67 q)) ≤ 11 from rgm (by omega)) ?_
        refine And.intro (show -2147483648 ≤ (vor ring (vshl 1 o)) ∧ (vor ring (vshl 1 o)) ≤ 2147483647 from vor_rg _ _) (fun (z9 : Int) (h10 : 0 ≤ z9 ∧ z9 ≤ 32) => ?_)
        refine And.intro (fun (c11 : z9 ≤ 1) => ?_) (fun (c12 : 1 < z9) => ?_)
        · refine And.intro (show -2147483648 ≤ (q + 1) ∧ (q + 1) ≤ 2147483647 from by omega) ?_
          show zG E gJ1 md204 w gm_204 162 [(0, .inr (.inl 12)), (1, .inl left), (2, .inl (vor gone (vshl 1 q))), (3, .inl (q + 1))] (vup σ 66 q (σ 65 (σ 67 q))) K
          have hE := zRg_e hR hPo (by assumption)
          have hq2 : zQ2 (σ 67) left (q + 1) := fun _ => ⟨_, hPo.1, hPo.2, hE.1⟩
          exact hN _ _ (show σ 52 1 = N from hn) (zfr_up hf (by decide)) hP (zQ_1s hq h1) hq2
        · refine fun (z13 : Int) (h14 : -2147483648 ≤ z13 ∧ z13 ≤ 2147483647) (e15 : z13 = vsub (vshl 1 q) 1) => ?_
          refine And.intro (fun (c16 : ¬ (vand (vor ring (vshl 1 o)) z13) = 0) => ?_) (fun (c17 : (vand (vor ring (vshl 1 o)) z13) = 0) => ?_)
          · refine And.intro (show -2147483648 ≤ (q + 1) ∧ (q + 1) ≤ 2147483647 from by omega) ?_
            show zG E gJ1 md204 w gm_204 162 [(0, .inr (.inl 12)), (1, .inl left), (2, .inl (vor gone (vshl 1 q))), (3, .inl (q + 1))] (vup σ 66 q (σ 65 (σ 67 q))) K
            have hE := zRg_e hR hPo (by assumption)
            have hq2 : zQ2 (σ 67) left (q + 1) := fun _ => ⟨_, hPo.1, hPo.2, hE.1⟩
            exact hN _ _ (show σ 52 1 = N from hn) (zfr_up hf (by decide)) hP (zQ_1s hq h1) hq2
          · have f18 : (-2147483648) ≤ σ 12 35 ∧ σ 12 35 ≤ 2147483647 := zf B hb (t := 12) (f := 35) (by decide +kernel)
            refine fun (z19 : Int) (h20 : -2147483648 ≤ z19 ∧ z19 ≤ 2147483647) (e21 : z19 = vadd (σ 12 35) 1) => ?_
            refine And.intro (show Int.negSucc 2147483647 ≤ z19 ∧ z19 ≤ 2147483647 from rgm (by omega)) ?_
            refine And.intro (show -2147483648 ≤ (q + 1) ∧ (q + 1) ≤ 2147483647 from by omega) ?_
            show zG E gJ1 md204 w gm_204 162 [(0, .inr (.inl 12)), (1, .inl left), (2, .inl (vor gone (vshl 1 q))), (3, .inl (q + 1))] (vup (vup σ 66 q (σ 65 (σ 67 q))) 12 35 z19) K
            have hE := zRg_e hR hPo (by assumption)
            have hq2 : zQ2 (σ 67) left (q + 1) := fun _ => ⟨_, hPo.1, hPo.2, hE.1⟩
            exact hN _ _ (show σ 52 1 = N from hn) (zfr_up (zfr_up hf (by decide)) (by decide)) hP (zQ_1s hq h1) hq2
      · refine And.intro (show -2147483648 ≤ (q + 1) ∧ (q + 1) ≤ 2147483647 from by omega) ?_
        show zG E gJ1 md204 w gm_204 162 [(0, .inr (.inl 12)), (1, .inl left), (2, .inl gone), (3, .inl (q + 1))] σ K
        have hE := zRg_e hR hPo (by assumption)
        have hq2 : zQ2 (σ 67) left (q + 1) := fun _ => ⟨_, hPo.1, hPo.2, hE.1⟩
        exact hN gone σ hn hf hP (zQ_1 h1 (fun hc => absurd (hE.2 hc) (by assumption))) hq2
    · refine And.intro (fun _ => ?_) (fun (q : ¬ 0 = 0) => absurd q (by decide))
      show zG E gJ1 md204 w gm_204 189 [(0, .inr (.inl 12)), (1, .inl left), (2, .inl gone), (3, .inl q), (4, .inl (vor ring (vshl 1 o))), (5, .inl (σ 67 o))] σ K
      exact ih _ _ (k + 1) (by have := zun_set (x := ring) (j := o) (n := 6) (by omega) (by omega) (by omega) hR.2.2.2.1; omega) (zRg_s hR hPo (by assumption))
theorem z_exc5 (B : zB E) {σ0 : vS} {N : Int} (n0 : 0 ≤ N ∧ N ≤ 6) {left : Int} (hl : zl left N) (hN : ∀ (gone : Int) (σ : vS), σ 52 1 = N → zfr [12, 65, 66, 67] σ0 σ → zQ1 (σ 67) left gone N → zQ2 (σ 67) left N → zG E gJ1 md204 w gm_204 116 [(0, .inr (.inl 12)), (1, .inl (vand left (vxor gone (-1))))] σ K) : ∀ (m : Nat) (gone q : Int) (σ : vS), N - q < (m : Int) → 0 ≤ q → σ 52 1 = N → zfr [12, 65, 66, 67] σ0 σ → (∀ j : Int, 0 ≤ j → j < N → tb left j = true → (0 ≤ σ 67 j ∧ σ 67 j ≤ 5) ∧ tb left (σ 67 j) = true) → zQ1 (σ 67) left gone q → zQ2 (σ 67) left q → q ≤ N → zG E gJ1 md204 w gm_204 162 [(0, .inr (.inl 12)), (1, .inl left), (2, .inl gone), (3, .inl q)] σ K := by
  intro m
  induction m with
  | zero => intro gone q σ h; omega
  | succ m ih =>
    intro gone q σ hm h0 hn hf hP h1 h2 hqN
    refine zbd (fun hb => zgo B (zS_cons (z_254 B) (zS_cons (z_183 B) (zS_cons (z_182 B) zS_nil))) [264, 275] [(9, [0, 1, 2]), (42, [0, 1, 2, 3]), (116, [0, 1]), (124, [0, 1, 2, 3]), (162, [0, 1, 2, 3]), (189, [0, 1, 2, 3, 4, 5])] (fun m => Nat.beq m.2.2.2.2.1 145) (by decide +kernel) ?_)
    refine And.intro (show 0 ≤ 1 ∧ 1 < 402 from by omega) ?_
    have f1 : 0 ≤ σ 52 1 ∧ σ 52 1 ≤ 6 := zb B hb (t := 52) (a := 0) (n := 2) (i := 1) (by decide +kernel) (by omega) (by omega)
    refine And.intro (fun (c2 : (σ 52 1) ≤ q) => ?_) (fun (c3 : q < (σ 52 1)) => ?_)
    · show zG E gJ1 md204 w gm_204 116 [(0, .inr (.inl 12)), (1, .inl (vand left (vxor gone (-1))))] σ K
      have e : q = N := by omega
      subst e
      exact hN gone σ hn hf h1 h2
    · refine And.intro (show 0 ≤ q ∧ q ≤ 31 from by omega) (fun (z4 : Int) (h5 : (z4 = 1 ∧ tb left q = true) ∨ (z4 = 0 ∧ tb left q = false)) => ?_)
      rcases h5 with ⟨rfl, t6⟩ | ⟨rfl, t6⟩
      · refine And.intro (fun _ => ?_) (fun (q : 1 = 0) => absurd q (by decide))
        show zG E gJ1 md204 w gm_204 189 [(0, .inr (.inl 12)), (1, .inl left), (2, .inl gone), (3, .inl q), (4, .inl 0), (5, .inl q)] σ K
        have := zun_top 0 6
        exact z_exc6 B n0 hl (by omega) (fun g2 σ2 a1 a2 a3 a4 a5 => ih g2 (q + 1) σ2 (by omega) (by omega) a1 a2 a3 a4 a5 (by omega)) hn hf hP h1 7 0 q 0 (by omega) (zRg_0 (by assumption) (by omega))
      · refine And.intro (fun (q : ¬ 0 = 0) => absurd q (by decide)) (fun _ => ?_)
        refine And.intro (show -2147483648 ≤ (q + 1) ∧ (q + 1) ≤ 2147483647 from by omega) ?_
        show zG E gJ1 md204 w gm_204 162 [(0, .inr (.inl 12)), (1, .inl left), (2, .inl gone), (3, .inl (q + 1))] σ K
        have hz := zQ_no h1 h2 (by assumption)
        exact ih gone (q + 1) σ (by omega) (by omega) hn hf hP hz.1 hz.2 (by omega)
theorem z_exc4 (B : zB E) {σ0 : vS} {N : Int} (n0 : 0 ≤ N ∧ N ≤ 6) {left : Int} (hl : zl left N) (hN : ∀ (gone : Int) (σ : vS), σ 52 1 = N → zfr [12, 65, 66, 67] σ0 σ → zQ1 (σ 67) left gone N → zQ2 (σ 67) left N → zG E gJ1 md204 w gm_204 116 [(0, .inr (.inl 12)), (1, .inl (vand left (vxor gone (-1))))] σ K) : ∀ (m : Nat) (q : Int) (σ : vS), N - q < (m : Int) → 0 ≤ q → q ≤ N → σ 52 1 = N → zfr [12, 65, 66, 67] σ0 σ → (∀ j : Int, 0 ≤ j → j < q → tb left j = true → (0 ≤ σ 67 j ∧ σ 67 j ≤ 5) ∧ tb left (σ 67 j) = true) → zG E gJ1 md204 w gm_204 124 [(0, .inr (.inl 12)), (1, .inl left), (2, .inl 0), (3, .inl q)] σ K := by
  intro m
  induction m with
  | zero => intro q σ h; omega
  | succ m ih =>
    intro q σ hm h0 h1 hn hf hA
    refine zbd (fun hb => zgo B (zS_cons (z_254 B) (zS_cons (z_183 B) (zS_cons (z_182 B) zS_nil))) [264, 275] [(9, [0, 1, 2]), (42, [0, 1, 2, 3]), (116, [0, 1]), (124, [0, 1, 2, 3]), (162, [0, 1, 2, 3]), (189, [0, 1, 2, 3, 4, 5])] (fun m => Nat.beq m.2.2.2.2.1 145) (by decide +kernel) ?_)
    refine And.intro (show 0 ≤ 1 ∧ 1 < 402 from by omega) ?_
    have f1 : 0 ≤ σ 52 1 ∧ σ 52 1 ≤ 6 := zb B hb (t := 52) (a := 0) (n := 2) (i := 1) (by decide +kernel) (by omega) (by omega)
    refine And.intro (fun (c2 : (σ 52 1) ≤ q) => ?_) (fun (c3 : q < (σ 52 1)) => ?_)
    · show zG E gJ1 md204 w gm_204 162 [(0, .inr (.inl 12)), (1, .inl left), (2, .inl 0), (3, .inl 0)] σ K
      exact z_exc5 B n0 hl hN 7 0 0 σ (by omega) (by omega) hn hf (fun j j0 j1 => hA j j0 (by omega)) (fun j j0 j1 => by omega) (fun ⟨j, j0, j1, _⟩ => by omega) n0.1
    · refine And.intro (show 0 ≤ q ∧ q ≤ 31 from by omega) (fun (z4 : Int) (h5 : (z4 = 1 ∧ tb left q = true) ∨ (z4 = 0 ∧ tb left q = false)) => ?_)
      rcases h5 with ⟨rfl, t6⟩ | ⟨rfl, t6⟩
      · refine And.intro (fun (q : 1 = 0) => absurd q (by decide)) (fun _ => ?_)
        refine And.intro (show (0 ≤ q ∧ q ≤ 5) ∧ tb left q = true from ⟨by omega, by assumption⟩) (fun (z7 : Int) (h8 : (0 ≤ z7 ∧ z7 ≤ 5) ∧ tb left z7 = true) => ?_)
        refine And.intro (show 0 ≤ q ∧ q < 6 from by omega) ?_
        refine And.intro (show 0 ≤ z7 ∧ z7 ≤ 5 from by omega) ?_
        refine And.intro (show -2147483648 ≤ (q + 1) ∧ (q + 1) ≤ 2147483647 from by omega) ?_
        show zG E gJ1 md204 w gm_204 124 [(0, .inr (.inl 12)), (1, .inl left), (2, .inl 0), (3, .inl (q + 1))] (vup σ 67 q z7) K
        refine ih (q + 1) _ (by omega) (by omega) (by omega) (show σ 52 1 = N from hn) (zfr_up hf (by decide)) (fun j j0 j1 j2 => ?_)
        rw [vup_f]
        by_cases hj : j = q
        · subst hj
          rw [ful_at]
          exact h8
        · rw [ful_ne hj]
          exact hA j j0 (by omega) j2
      · refine And.intro (fun _ => ?_) (fun (q : ¬ 0 = 0) => absurd q (by decide))
        refine And.intro (show -2147483648 ≤ (q + 1) ∧ (q + 1) ≤ 2147483647 from by omega) ?_
        show zG E gJ1 md204 w gm_204 124 [(0, .inr (.inl 12)), (1, .inl left), (2, .inl 0), (3, .inl (q + 1))] σ K
        refine ih (q + 1) σ (by omega) (by omega) (by omega) hn hf (fun j j0 j1 j2 => ?_)
        by_cases hj : j = q
        · subst hj
          simp_all
        · exact hA j j0 (by omega) j2
theorem z_exc3 (B : zB E) {σ0 : vS} {N : Int} (n0 : 0 ≤ N ∧ N ≤ 6) (hK : ∀ σ : vS, zfr [12, 65, 66, 67] σ0 σ → K none σ) : ∀ (m : Nat) (left : Int) (σ : vS), 6 - zun left 6 < m → σ 52 1 = N → zfr [12, 65, 66, 67] σ0 σ → zl left N → (-2147483648 ≤ left ∧ left ≤ 2147483647) → zG E gJ1 md204 w gm_204 116 [(0, .inr (.inl 12)), (1, .inl left)] σ K := by
  intro m
  induction m with
  | zero => intro left σ h; omega
  | succ m ih =>
    intro left σ hm hn hf hl hr
    refine zbd (fun hb => zgo B (zS_cons (z_254 B) (zS_cons (z_183 B) (zS_cons (z_182 B) zS_nil))) [264, 275] [(9, [0, 1, 2]), (42, [0, 1, 2, 3]), (116, [0, 1]), (124, [0, 1, 2, 3]), (162, [0, 1, 2, 3]), (189, [0, 1, 2, 3, 4, 5])] (fun m => Nat.beq m.2.2.2.2.1 145) (by decide +kernel) ?_)
    refine And.intro (fun (c1 : left = 0) => ?_) (fun (c2 : ¬ left = 0) => ?_)
    · show K none σ
      exact hK _ hf
    · show zG E gJ1 md204 w gm_204 124 [(0, .inr (.inl 12)), (1, .inl left), (2, .inl 0), (3, .inl 0)] σ K
      exact z_exc4 B n0 hl (fun g2 σ2 a1 a2 a3 a4 => by
        have := zQ_out hl n0.2 hr (by assumption) a3 a4
        have := zun_top left 6
        have := zun_top (vand left (vxor g2 (-1))) 6
        exact ih _ σ2 (by omega) a1 a2 (zl_out hl) (vand_rg _ _)) 7 0 σ (by omega) (by omega) (by omega) hn hf (fun j j0 j1 => by omega)
theorem z_exc2 (B : zB E) {σ0 : vS} {N : Int} (n0 : 0 ≤ N ∧ N ≤ 6) {left q : Int} (hl : zl left N) (hq : 0 ≤ q ∧ q < N) (hN : ∀ (left : Int) (σ : vS), σ 52 1 = N → zfr [12, 65, 66, 67] σ0 σ → zl left N → (-2147483648 ≤ left ∧ left ≤ 2147483647) → zG E gJ1 md204 w gm_204 9 [(0, .inr (.inl 12)), (1, .inl left), (2, .inl (q + 1))] σ K) : ∀ (m : Nat) (r : Int) (σ : vS), r + 1 < (m : Int) → -1 ≤ r → r ≤ 11 → σ 52 1 = N → zfr [12, 65, 66, 67] σ0 σ → zG E gJ1 md204 w gm_204 42 [(0, .inr (.inl 12)), (1, .inl left), (2, .inl q), (3, .inl r)] σ K := by
  intro m
  induction m with
  | zero => intro r σ h; omega
  | succ m ih =>
    intro r σ hm h0 h1 hn hf
    refine zbd (fun hb => zgo B (zS_cons (z_254 B) (zS_cons (z_183 B) (zS_cons (z_182 B) zS_nil))) [264, 275] [(9, [0, 1, 2]), (42, [0, 1, 2, 3]), (116, [0, 1]), (124, [0, 1, 2, 3]), (162, [0, 1, 2, 3]), (189, [0, 1, 2, 3, 4, 5])] (fun m => Nat.beq m.2.2.2.2.1 145) (by decide +kernel) ?_)
    refine And.intro (fun (c1 : r < 0) => ?_) (fun (c2 : 0 ≤ r) => ?_)
    · refine And.intro (show 0 ≤ q ∧ q < 6 from by omega) ?_
      have f3 : (-1) ≤ σ 65 q ∧ σ 65 q ≤ 11 := zb B hb (t := 65) (a := 0) (n := 6) (i := q) (by decide +kernel) (by omega) (by omega)
      refine And.intro (fun (c4 : (σ 65 q) < 0) => ?_) (fun (c5 : 0 ≤ (σ 65 q)) => ?_)
      · refine And.intro (show -2147483648 ≤ (q + 1) ∧ (q + 1) ≤ 2147483647 from by omega) ?_
        show zG E gJ1 md204 w gm_204 9 [(0, .inr (.inl 12)), (1, .inl (vor left 0)), (2, .inl (q + 1))] σ K
        exact hN _ σ hn hf (zl_or0 hl) (vor_rg _ _)
      · refine And.intro (show -2147483648 ≤ (q + 1) ∧ (q + 1) ≤ 2147483647 from by omega) ?_
        show zG E gJ1 md204 w gm_204 9 [(0, .inr (.inl 12)), (1, .inl (vor left (vshl 1 q))), (2, .inl (q + 1))] σ K
        exact hN _ σ hn hf (zl_or hl hq.1 hq.2 n0.2) (vor_rg _ _)
    · refine And.intro (show 0 ≤ 180 ∧ 180 < 402 from by omega) ?_
      have f6 : (-2147483648) ≤ σ 52 180 ∧ σ 52 180 ≤ 2147483647 := zb B hb (t := 52) (a := 179) (n := 185) (i := 180) (by decide +kernel) (by omega) (by omega)
      refine And.intro (show 0 ≤ q ∧ q ≤ 31 from by omega) (fun (z7 : Int) (h8 : (z7 = 1 ∧ tb (σ 52 180) q = true) ∨ (z7 = 0 ∧ tb (σ 52 180) q = false)) => ?_)
      rcases h8 with ⟨rfl, t9⟩ | ⟨rfl, t9⟩
      · refine And.intro (show 0 ≤ 1 ∧ 1 ≤ 1 from by omega) ?_
        refine And.intro (fun _ => ?_) (fun (q : 1 = 0) => absurd q (by decide))
        refine And.intro (show 0 ≤ q ∧ q < 6 from by omega) ?_
        have f10 : (-1) ≤ σ 65 q ∧ σ 65 q ≤ 11 := zb B hb (t := 65) (a := 0) (n := 6) (i := q) (by decide +kernel) (by omega) (by omega)
        refine And.intro (fun (c11 : (σ 65 q) < 0) => ?_) (fun (c12 : 0 ≤ (σ 65 q)) => ?_)
        · refine And.intro (show -2147483648 ≤ (q + 1) ∧ (q + 1) ≤ 2147483647 from by omega) ?_
          show zG E gJ1 md204 w gm_204 9 [(0, .inr (.inl 12)), (1, .inl (vor left 0)), (2, .inl (q + 1))] σ K
          exact hN _ σ hn hf (zl_or0 hl) (vor_rg _ _)
        · refine And.intro (show -2147483648 ≤ (q + 1) ∧ (q + 1) ≤ 2147483647 from by omega) ?_
          show zG E gJ1 md204 w gm_204 9 [(0, .inr (.inl 12)), (1, .inl (vor left (vshl 1 q))), (2, .inl (q + 1))] σ K
          exact hN _ σ hn hf (zl_or hl hq.1 hq.2 n0.2) (vor_rg _ _)
      · refine And.intro (show 0 ≤ 0 ∧ 0 ≤ 1 from by omega) ?_
        refine And.intro (fun (q : ¬ 0 = 0) => absurd q (by decide)) (fun _ => ?_)
        refine And.intro (show -2147483648 ≤ (185 + r) ∧ (185 + r) ≤ 2147483647 from by omega) ?_
        refine And.intro (show 0 ≤ (185 + r) ∧ (185 + r) < 402 from by omega) ?_
        have f13 : 0 ≤ σ 52 (185 + r) ∧ σ 52 (185 + r) ≤ 6 := zb B hb (t := 52) (a := 185) (n := 197) (i := 185 + r) (by decide +kernel) (by omega) (by omega)
        refine And.intro (show -2147483648 ≤ (q + 1) ∧ (q + 1) ≤ 2147483647 from by omega) ?_
        refine And.intro (fun (c14 : ¬ (σ 52 (185 + r)) = (q + 1)) => ?_) (fun (c15 : (σ 52 (185 + r)) = (q + 1)) => ?_)
        · refine And.intro (show -2147483648 ≤ (r + (-1)) ∧ (r + (-1)) ≤ 2147483647 from by omega) ?_
          show zG E gJ1 md204 w gm_204 42 [(0, .inr (.inl 12)), (1, .inl left), (2, .inl q), (3, .inl (r + (-1)))] σ K
          exact ih (r + -1) _ (by omega) (by omega) (by omega) (show σ 52 1 = N from hn) hf
        · refine And.intro (show 0 ≤ 181 ∧ 181 < 402 from by omega) ?_
          have f16 : (-2147483648) ≤ σ 52 181 ∧ σ 52 181 ≤ 2147483647 := zb B hb (t := 52) (a := 179) (n := 185) (i := 181) (by decide +kernel) (by omega) (by omega)
          refine And.intro (show 0 ≤ r ∧ r ≤ 31 from by omega) (fun (z17 : Int) (h18 : (z17 = 1 ∧ tb (σ 52 181) r = true) ∨ (z17 = 0 ∧ tb (σ 52 181) r = false)) => ?_)
          rcases h18 with ⟨rfl, t19⟩ | ⟨rfl, t19⟩
          · refine And.intro (show 0 ≤ 1 ∧ 1 ≤ 1 from by omega) ?_
            refine And.intro (fun _ => ?_) (fun (q : 1 = 0) => absurd q (by decide))
            refine And.intro (show -2147483648 ≤ (r + (-1)) ∧ (r + (-1)) ≤ 2147483647 from by omega) ?_
            show zG E gJ1 md204 w gm_204 42 [(0, .inr (.inl 12)), (1, .inl left), (2, .inl q), (3, .inl (r + (-1)))] σ K
            exact ih (r + -1) _ (by omega) (by omega) (by omega) (show σ 52 1 = N from hn) hf
          · refine And.intro (show 0 ≤ 0 ∧ 0 ≤ 1 from by omega) ?_
            refine And.intro (fun (q : ¬ 0 = 0) => absurd q (by decide)) (fun _ => ?_)
            refine And.intro (show 0 ≤ q ∧ q < 6 from by omega) ?_
            refine And.intro (show Int.negSucc 0 ≤ r ∧ r ≤ 11 from rgm (by omega)) ?_
            refine And.intro (show -2147483648 ≤ (r + (-1)) ∧ (r + (-1)) ≤ 2147483647 from by omega) ?_
            show zG E gJ1 md204 w gm_204 42 [(0, .inr (.inl 12)), (1, .inl left), (2, .inl q), (3, .inl (r + (-1)))] (vup σ 65 q r) K
            exact ih (r + -1) _ (by omega) (by omega) (by omega) (show σ 52 1 = N from hn) (zfr_up hf (by decide))
theorem z_exc1 (B : zB E) {σ0 : vS} {N : Int} (n0 : 0 ≤ N ∧ N ≤ 6) (hK : ∀ σ : vS, zfr [12, 65, 66, 67] σ0 σ → K none σ) : ∀ (m : Nat) (left q : Int) (σ : vS), N - q < (m : Int) → 0 ≤ q → q ≤ N → σ 52 1 = N → zfr [12, 65, 66, 67] σ0 σ → zl left N → (-2147483648 ≤ left ∧ left ≤ 2147483647) → zG E gJ1 md204 w gm_204 9 [(0, .inr (.inl 12)), (1, .inl left), (2, .inl q)] σ K := by
  intro m
  induction m with
  | zero => intro left q σ h; omega
  | succ m ih =>
    intro left q σ hm h0 h1 hn hf hl hr
    refine zbd (fun hb => zgo B (zS_cons (z_254 B) (zS_cons (z_183 B) (zS_cons (z_182 B) zS_nil))) [264, 275] [(9, [0, 1, 2]), (42, [0, 1, 2, 3]), (116, [0, 1]), (124, [0, 1, 2, 3]), (162, [0, 1, 2, 3]), (189, [0, 1, 2, 3, 4, 5])] (fun m => Nat.beq m.2.2.2.2.1 145) (by decide +kernel) ?_)
    refine And.intro (show 0 ≤ 1 ∧ 1 < 402 from by omega) ?_
    have f1 : 0 ≤ σ 52 1 ∧ σ 52 1 ≤ 6 := zb B hb (t := 52) (a := 0) (n := 2) (i := 1) (by decide +kernel) (by omega) (by omega)
    refine And.intro (fun (c2 : (σ 52 1) ≤ q) => ?_) (fun (c3 : q < (σ 52 1)) => ?_)
    · show zG E gJ1 md204 w gm_204 116 [(0, .inr (.inl 12)), (1, .inl left)] σ K
      exact z_exc3 B n0 hK 7 left σ (by omega) hn hf hl hr
    · refine And.intro (show 0 ≤ q ∧ q < 6 from by omega) ?_
      refine And.intro (show Int.negSucc 0 ≤ (-1) ∧ (-1) ≤ 11 from rgm (by omega)) ?_
      refine And.intro (show 0 ≤ q ∧ q < 6 from by omega) ?_
      refine And.intro (show Int.negSucc 0 ≤ (-1) ∧ (-1) ≤ 11 from rgm (by omega)) ?_
      refine And.intro (show 0 ≤ 2 ∧ 2 < 402 from by omega) ?_
      have f4 : 0 ≤ σ 52 2 ∧ σ 52 2 ≤ 12 := zb B hb (t := 52) (a := 2) (n := 3) (i := 2) (by decide +kernel) (by omega) (by omega)
      refine And.intro (show -2147483648 ≤ ((σ 52 2) - 1) ∧ ((σ 52 2) - 1) ≤ 2147483647 from by omega) ?_
      show zG E gJ1 md204 w gm_204 42 [(0, .inr (.inl 12)), (1, .inl left), (2, .inl q), (3, .inl ((σ 52 2) - 1))] (vup (vup σ 66 q (-1)) 65 q (-1)) K
      exact z_exc2 B n0 hl (by omega) (fun l2 σ2 a1 a2 a3 a4 => ih l2 (q + 1) σ2 (by omega) (by omega) (by omega) a1 a2 a3 a4) 13 _ _ (by omega) (by omega) (by omega) (show σ 52 1 = N from hn) (zfr_up (zfr_up hf (by decide)) (by decide))
theorem z_exc0 (B : zB E) {σ0 : vS} (hK : ∀ σ : vS, zfr [12, 65, 66, 67] σ0 σ → K none σ) (hf : zfr [12, 65, 66, 67] σ0 σ) : zG E gJ1 md204 w gm_204 0 [(0, .inr (.inl 12))] σ K := by
  refine zbd (fun hb => zgo B (zS_cons (z_254 B) (zS_cons (z_183 B) (zS_cons (z_182 B) zS_nil))) [264, 275] [(9, [0, 1, 2]), (42, [0, 1, 2, 3]), (116, [0, 1]), (124, [0, 1, 2, 3]), (162, [0, 1, 2, 3]), (189, [0, 1, 2, 3, 4, 5])] (fun m => Nat.beq m.2.2.2.2.1 145) (by decide +kernel) ?_)
  have fr := zb B hb (t := 52) (a := 0) (n := 2) (i := 1) (lo := 0) (hi := 6) (by decide +kernel) (by omega) (by omega)
  refine And.intro (show Int.negSucc 2147483647 ≤ 0 ∧ 0 ≤ 2147483647 from rgm (by omega)) ?_
  show zG E gJ1 md204 w gm_204 9 [(0, .inr (.inl 12)), (1, .inl 0), (2, .inl 0)] (vup σ 12 35 0) K
  exact z_exc1 (N := σ 52 1) B fr hK 7 0 0 _ (by omega) (by omega) (by omega) rfl (zfr_up hf (by decide)) zl_0 (by omega)
theorem zc_204 (B : zB E) : zH E gJ1 (gm_204, 6) gc_204_0 := by
  refine z_holds B (by decide) (fun w vs σ hv hX hb => ?_)
  have hv : vFits [.inr (.inl 12)] vs := hv
  rw [fits1 hv]
  exact z_exc0 B (fun σ2 hf => ⟨vX_fr hX (hf 52 (by decide)) (hf 74 (by decide)), _, List.mem_cons_self, trivial⟩) zfr_refl
end Z5
