/-! EXACT WALKS: comesTo, cut -/
noncomputable section
/-- who came by whom: a row of rooms, each with one ahead of it in the row, or with none -/
def zT (f Q : Int → Int) (n N : Int) : Prop := (∀ j : Int, 0 ≤ j → j < n → (0 ≤ Q j ∧ Q j < N) ∧ 0 ≤ f (Q j) ∧ (f (Q j) = Q j ∨ ∃ i : Int, 0 ≤ i ∧ i < j ∧ Q i = f (Q j))) ∧ (∀ o : Int, 0 ≤ o → o < N → 0 ≤ f o → ∃ j : Int, 0 ≤ j ∧ j < n ∧ Q j = o) ∧ n = (zcn (fun o => 0 ≤ f o) N.toNat : Nat)
def zs193 : vSp := fun vs σ K => match vs with
  | [.inr (.inl 12), .inl to] => (0 ≤ to ∧ to ≤ 11) ∧ ∀ (z : Int) (σ2 : vS), zfr [63, 64] σ σ2 → ((z = 0 ∨ z = 1) ∧ (z = 1 → 0 ≤ σ2 63 to ∧ ∃ n : Int, zT (σ2 63) (σ2 64) n (σ2 52 2))) → K (some (.inl z)) σ2
  | _ => False
def md196 : aMd := gc_196_0.2.2.2
end
theorem zcn_eq {p q : Int → Prop} (n : Nat) (h : ∀ k : Int, 0 ≤ k → k < (n : Int) → (p k ↔ q k)) : zcn p n = zcn q n := Nat.le_antisymm (zcn_le n (fun k a b c => (h k a b).mp c)) (zcn_le n (fun k a b c => (h k a b).mpr c))
theorem zT_le {f Q : Int → Int} {n N : Int} (h : zT f Q n N) (h0 : 0 ≤ N) : 0 ≤ n ∧ n ≤ N := by
  have := zcn_top (p := fun o => 0 ≤ f o) N.toNat
  have e := h.2.2
  omega
theorem zT_0 {f Q : Int → Int} : zT f Q 0 0 := ⟨fun j a b => by omega, fun j a b => by omega, rfl⟩
theorem zT_no {f Q : Int → Int} {n r : Int} (h0 : 0 ≤ r) (h : zT f Q n r) : zT (ful f r (-1)) Q n (r + 1) := by
  obtain ⟨h1, h2, h3⟩ := h
  refine ⟨fun j j0 j1 => ?_, fun o o0 o1 o2 => ?_, ?_⟩
  · obtain ⟨a, b, c⟩ := h1 j j0 j1
    rw [ful_ne (by omega)]
    exact ⟨by omega, b, c⟩
  · by_cases ho : o = r
    · subst ho
      rw [ful_at] at o2
      omega
    · rw [ful_ne ho] at o2
      exact h2 o o0 (by omega) o2
  · have e : (r + 1).toNat = r.toNat + 1 := by omega
    rw [e, h3]
    show _ = ((zcn _ r.toNat + _ : Nat) : Int)
    have e2 : ((r.toNat : Nat) : Int) = r := by omega
    rw [if_neg (show ¬ 0 ≤ ful f r (-1) ((r.toNat : Nat) : Int) from by rw [e2, ful_at]; omega), zcn_eq (p := fun o => 0 ≤ ful f r (-1) o) (q := fun o => 0 ≤ f o) r.toNat (fun k a b => by rw [ful_ne (by omega)]), Nat.add_zero]
theorem zT_new {f Q : Int → Int} {n r : Int} (h0 : 0 ≤ r) (h : zT f Q n r) : zT (ful f r r) (ful Q n r) (n + 1) (r + 1) := by
  have hn := zT_le h h0
  obtain ⟨h1, h2, h3⟩ := h
  refine ⟨fun j j0 j1 => ?_, fun o o0 o1 o2 => ?_, ?_⟩
  · by_cases hj : j = n
    · subst hj
      rw [ful_at, ful_at]
      exact ⟨by omega, h0, Or.inl rfl⟩
    · rw [ful_ne hj]
      obtain ⟨a, b, c⟩ := h1 j j0 (by omega)
      rw [ful_ne (by omega)]
      refine ⟨by omega, b, ?_⟩
      rcases c with c | ⟨i, i0, i1, i2⟩
      · exact Or.inl c
      · exact Or.inr ⟨i, i0, i1, by rw [ful_ne (by omega)]; exact i2⟩
  · by_cases ho : o = r
    · exact ⟨n, by omega, by omega, by rw [ful_at, ho]⟩
    · rw [ful_ne ho] at o2
      obtain ⟨j, a, b, c⟩ := h2 o o0 (by omega) o2
      exact ⟨j, a, by omega, by rw [ful_ne (by omega)]; exact c⟩
  · have e : (r + 1).toNat = r.toNat + 1 := by omega
    rw [e, h3]
    show _ = ((zcn _ r.toNat + _ : Nat) : Int)
    have e2 : ((r.toNat : Nat) : Int) = r := by omega
    rw [if_pos (show 0 ≤ ful f r r ((r.toNat : Nat) : Int) from by rw [e2, ful_at]; exact h0), zcn_eq (p := fun o => 0 ≤ ful f r r o) (q := fun o => 0 ≤ f o) r.toNat (fun k a b => by rw [ful_ne (by omega)])]
    omega
theorem zT_ins {f Q : Int → Int} {n N r i : Int} (h : zT f Q n N) (r0 : 0 ≤ r) (r1 : r < N) (hr : f r < 0) (i0 : 0 ≤ i) (i1 : i < n) : zT (ful f r (Q i)) (ful Q n r) (n + 1) N := by
  have hn := zT_le h (by omega)
  obtain ⟨h1, h2, h3⟩ := h
  have hi := h1 i i0 i1
  refine ⟨fun j j0 j1 => ?_, fun o o0 o1 o2 => ?_, ?_⟩
  · by_cases hj : j = n
    · subst hj
      rw [ful_at, ful_at]
      exact ⟨by omega, by omega, Or.inr ⟨i, i0, i1, by rw [ful_ne (by omega)]⟩⟩
    · rw [ful_ne hj]
      obtain ⟨a, b, c⟩ := h1 j j0 (by omega)
      have hne : ¬ Q j = r := fun e => by rw [e] at b; omega
      rw [ful_ne hne]
      refine ⟨a, b, ?_⟩
      rcases c with c | ⟨i, i0, i1, i2⟩
      · exact Or.inl c
      · exact Or.inr ⟨i, i0, i1, by rw [ful_ne (by omega)]; exact i2⟩
  · by_cases ho : o = r
    · exact ⟨n, by omega, by omega, by rw [ful_at, ho]⟩
    · rw [ful_ne ho] at o2
      obtain ⟨j, a, b, c⟩ := h2 o o0 (by omega) o2
      exact ⟨j, a, by omega, by rw [ful_ne (by omega)]; exact c⟩
  · have := zcn_up (p := fun o => 0 ≤ f o) (q := fun o => 0 ≤ ful f r (Q i) o) (j := r) N.toNat (fun k a b c => by rw [ful_ne c]) r0 (by omega) (by omega) (by rw [ful_at]; omega)
    rw [this, h3]
    omega
section Z4
variable {E : zE} {J : List aJ} {md : aMd} {w : va_W} {σ : vS} {K : vK}
theorem z_com3 (B : zB E) {σ0 : vS} {to N : Int} (ht : 0 ≤ to ∧ to ≤ 11) (n0 : 0 ≤ N ∧ N ≤ 12) {i : Int} (i0 : 0 ≤ i) (hN : ∀ (n : Int) (σ : vS), σ 52 2 = N → zfr [63, 64] σ0 σ → zT (σ 63) (σ 64) n N → i < n → zG E gJ1 md196 w gm_193 62 [(0, .inr (.inl 12)), (1, .inl to), (2, .inl n), (3, .inl (i + 1))] σ K) : ∀ (m : Nat) (n r : Int) (σ : vS), N - r < (m : Int) → 0 ≤ r → r ≤ N → σ 52 2 = N → zfr [63, 64] σ0 σ → zT (σ 63) (σ 64) n N → i < n → zG E gJ1 md196 w gm_193 70 [(0, .inr (.inl 12)), (1, .inl to), (2, .inl n), (3, .inl i), (4, .inl r)] σ K := by
  intro m
  induction m with
  | zero => intro n r σ h; omega
  | succ m ih =>
    intro n r σ hm h0 h1 hn hf hT hi
    have hle := zT_le hT n0.1
    have hQ := hT.1 i i0 hi
    have hlt : r < N → σ 63 r < 0 → n < N := fun a b => by
      have := zT_le (zT_ins hT h0 a b i0 hi) n0.1
      omega
    refine zbd (fun hb => zgo B (zS_cons (z_182 B) zS_nil) [] [(4, [0, 1, 2, 3]), (62, [0, 1, 2, 3]), (70, [0, 1, 2, 3, 4])] (fun m => Nat.beq m.2.2.2.2.1 141) (by decide +kernel) ?_)
    refine And.intro (show 0 ≤ 2 ∧ 2 < 402 from by omega) ?_
    have f1 : 0 ≤ σ 52 2 ∧ σ 52 2 ≤ 12 := zb B hb (t := 52) (a := 2) (n := 3) (i := 2) (by decide +kernel) (by omega) (by omega)
    refine And.intro (fun (c2 : (σ 52 2) ≤ r) => ?_) (fun (c3 : r < (σ 52 2)) => ?_)
    · refine And.intro (show -2147483648 ≤ (i + 1) ∧ (i + 1) ≤ 2147483647 from by omega) ?_
      show zG E gJ1 md196 w gm_193 62 [(0, .inr (.inl 12)), (1, .inl to), (2, .inl n), (3, .inl (i + 1))] σ K
      exact hN n σ hn hf hT hi
    · refine And.intro (show 0 ≤ r ∧ r < 12 from by omega) ?_
      have f4 : (-1) ≤ σ 63 r ∧ σ 63 r ≤ 11 := zb B hb (t := 63) (a := 0) (n := 12) (i := r) (by decide +kernel) (by omega) (by omega)
      refine And.intro (fun (c5 : 0 ≤ (σ 63 r)) => ?_) (fun (c6 : (σ 63 r) < 0) => ?_)
      · refine And.intro (show -2147483648 ≤ (r + 1) ∧ (r + 1) ≤ 2147483647 from by omega) ?_
        show zG E gJ1 md196 w gm_193 70 [(0, .inr (.inl 12)), (1, .inl to), (2, .inl n), (3, .inl i), (4, .inl (r + 1))] σ K
        exact ih n (r + 1) σ (by omega) (by omega) (by omega) hn hf hT hi
      · refine And.intro (show 0 ≤ i ∧ i < 12 from by omega) ?_
        have f7 : 0 ≤ σ 64 i ∧ σ 64 i ≤ 11 := zb B hb (t := 64) (a := 0) (n := 12) (i := i) (by decide +kernel) (by omega) (by omega)
        refine And.intro (show -2147483648 ≤ (12 * (σ 64 i)) ∧ (12 * (σ 64 i)) ≤ 2147483647 from by omega) ?_
        refine And.intro (show -2147483648 ≤ ((12 * (σ 64 i)) + r) ∧ ((12 * (σ 64 i)) + r) ≤ 2147483647 from by omega) ?_
        refine And.intro (show 0 ≤ ((12 * (σ 64 i)) + r) ∧ ((12 * (σ 64 i)) + r) < 144 from by omega) ?_
        have f8 : (-2147483648) ≤ σ 62 ((12 * (σ 64 i)) + r) ∧ σ 62 ((12 * (σ 64 i)) + r) ≤ 2147483647 := zb B hb (t := 62) (a := 0) (n := 144) (i := (12 * (σ 64 i)) + r) (by decide +kernel) (by omega) (by omega)
        refine And.intro (fun (c9 : ¬ (σ 62 ((12 * (σ 64 i)) + r)) = 0) => ?_) (fun (c10 : (σ 62 ((12 * (σ 64 i)) + r)) = 0) => ?_)
        · refine And.intro (show 0 ≤ i ∧ i < 12 from by omega) ?_
          refine And.intro (show 0 ≤ r ∧ r < 12 from by omega) ?_
          refine And.intro (show Int.negSucc 0 ≤ (σ 64 i) ∧ (σ 64 i) ≤ 11 from rgm (by omega)) ?_
          refine And.intro (show 0 ≤ n ∧ n < 12 from by omega) ?_
          refine And.intro (show 0 ≤ r ∧ r ≤ 11 from by omega) ?_
          refine And.intro (show -2147483648 ≤ (n + 1) ∧ (n + 1) ≤ 2147483647 from by omega) ?_
          refine And.intro (show -2147483648 ≤ (r + 1) ∧ (r + 1) ≤ 2147483647 from by omega) ?_
          show zG E gJ1 md196 w gm_193 70 [(0, .inr (.inl 12)), (1, .inl to), (2, .inl (n + 1)), (3, .inl i), (4, .inl (r + 1))] (vup (vup σ 63 r (σ 64 i)) 64 n r) K
          have hT2 := zT_ins hT h0 (by omega) (by omega) i0 hi
          exact ih (n + 1) (r + 1) _ (by omega) (by omega) (by omega) (show σ 52 2 = N from hn) (zfr_up (zfr_up hf (by decide)) (by decide)) (show zT (vup σ 63 r (σ 64 i) 63) (vup (vup σ 63 r (σ 64 i)) 64 n r 64) (n + 1) N from by rw [vup_f, vup_f]; exact hT2) (by omega)
        · refine And.intro (show -2147483648 ≤ (r + 1) ∧ (r + 1) ≤ 2147483647 from by omega) ?_
          show zG E gJ1 md196 w gm_193 70 [(0, .inr (.inl 12)), (1, .inl to), (2, .inl n), (3, .inl i), (4, .inl (r + 1))] σ K
          exact ih n (r + 1) σ (by omega) (by omega) (by omega) hn hf hT hi
theorem z_com2 (B : zB E) {σ0 : vS} {to N : Int} (ht : 0 ≤ to ∧ to ≤ 11) (n0 : 0 ≤ N ∧ N ≤ 12) (hK : ∀ (z : Int) (σ : vS), zfr [63, 64] σ0 σ → ((z = 0 ∨ z = 1) ∧ (z = 1 → 0 ≤ σ 63 to ∧ ∃ n : Int, zT (σ 63) (σ 64) n (σ 52 2))) → K (some (.inl z)) σ) : ∀ (m : Nat) (n i : Int) (σ : vS), 12 - i < (m : Int) → 0 ≤ i → σ 52 2 = N → zfr [63, 64] σ0 σ → zT (σ 63) (σ 64) n N → zG E gJ1 md196 w gm_193 62 [(0, .inr (.inl 12)), (1, .inl to), (2, .inl n), (3, .inl i)] σ K := by
  intro m
  induction m with
  | zero =>
    intro n i σ hm h0 hn hf hT
    have hle := zT_le hT n0.1
    refine zbd (fun hb => zgo B (zS_cons (z_182 B) zS_nil) [] [(4, [0, 1, 2, 3]), (62, [0, 1, 2, 3]), (70, [0, 1, 2, 3, 4])] (fun m => Nat.beq m.2.2.2.2.1 141) (by decide +kernel) ?_)
    refine And.intro (fun (c1 : n ≤ i) => ?_) (fun (c2 : i < n) => ?_)
    · refine And.intro (show 0 ≤ to ∧ to < 12 from by omega) ?_
      have f3 : (-1) ≤ σ 63 to ∧ σ 63 to ≤ 11 := zb B hb (t := 63) (a := 0) (n := 12) (i := to) (by decide +kernel) (by omega) (by omega)
      refine And.intro (fun (c4 : (σ 63 to) < 0) => ?_) (fun (c5 : 0 ≤ (σ 63 to)) => ?_)
      · refine And.intro (show 0 ≤ 0 ∧ 0 ≤ 1 from by omega) ?_
        show K (some (.inl 0)) σ
        exact hK _ σ hf ⟨by omega, fun _ => ⟨by omega, n, by rw [hn]; exact hT⟩⟩
      · refine And.intro (show 0 ≤ 1 ∧ 1 ≤ 1 from by omega) ?_
        show K (some (.inl 1)) σ
        exact hK _ σ hf ⟨by omega, fun _ => ⟨by omega, n, by rw [hn]; exact hT⟩⟩
    · exfalso; omega
  | succ m ih =>
    intro n i σ hm h0 hn hf hT
    have hle := zT_le hT n0.1
    refine zbd (fun hb => zgo B (zS_cons (z_182 B) zS_nil) [] [(4, [0, 1, 2, 3]), (62, [0, 1, 2, 3]), (70, [0, 1, 2, 3, 4])] (fun m => Nat.beq m.2.2.2.2.1 141) (by decide +kernel) ?_)
    refine And.intro (fun (c1 : n ≤ i) => ?_) (fun (c2 : i < n) => ?_)
    · refine And.intro (show 0 ≤ to ∧ to < 12 from by omega) ?_
      have f3 : (-1) ≤ σ 63 to ∧ σ 63 to ≤ 11 := zb B hb (t := 63) (a := 0) (n := 12) (i := to) (by decide +kernel) (by omega) (by omega)
      refine And.intro (fun (c4 : (σ 63 to) < 0) => ?_) (fun (c5 : 0 ≤ (σ 63 to)) => ?_)
      · refine And.intro (show 0 ≤ 0 ∧ 0 ≤ 1 from by omega) ?_
        show K (some (.inl 0)) σ
        exact hK _ σ hf ⟨by omega, fun _ => ⟨by omega, n, by rw [hn]; exact hT⟩⟩
      · refine And.intro (show 0 ≤ 1 ∧ 1 ≤ 1 from by omega) ?_
        show K (some (.inl 1)) σ
        exact hK _ σ hf ⟨by omega, fun _ => ⟨by omega, n, by rw [hn]; exact hT⟩⟩
    · show zG E gJ1 md196 w gm_193 70 [(0, .inr (.inl 12)), (1, .inl to), (2, .inl n), (3, .inl i), (4, .inl 0)] σ K
      exact z_com3 B ht n0 h0 (fun n2 σ2 a1 a2 a3 a4 => ih n2 (i + 1) σ2 (by omega) (by omega) a1 a2 a3) 13 n 0 σ (by omega) (by omega) (by omega) hn hf hT (by omega)
theorem z_com1 (B : zB E) {σ0 : vS} {to N : Int} (ht : 0 ≤ to ∧ to ≤ 11) (n0 : 0 ≤ N ∧ N ≤ 12) (hK : ∀ (z : Int) (σ : vS), zfr [63, 64] σ0 σ → ((z = 0 ∨ z = 1) ∧ (z = 1 → 0 ≤ σ 63 to ∧ ∃ n : Int, zT (σ 63) (σ 64) n (σ 52 2))) → K (some (.inl z)) σ) : ∀ (m : Nat) (n r : Int) (σ : vS), N - r < (m : Int) → 0 ≤ r → r ≤ N → σ 52 2 = N → zfr [63, 64] σ0 σ → zT (σ 63) (σ 64) n r → zG E gJ1 md196 w gm_193 4 [(0, .inr (.inl 12)), (1, .inl to), (2, .inl n), (3, .inl r)] σ K := by
  intro m
  induction m with
  | zero => intro n r σ h; omega
  | succ m ih =>
    intro n r σ hm h0 h1 hn hf hT
    have hle := zT_le hT h0
    refine zbd (fun hb => zgo B (zS_cons (z_182 B) zS_nil) [] [(4, [0, 1, 2, 3]), (62, [0, 1, 2, 3]), (70, [0, 1, 2, 3, 4])] (fun m => Nat.beq m.2.2.2.2.1 141) (by decide +kernel) ?_)
    refine And.intro (show 0 ≤ 2 ∧ 2 < 402 from by omega) ?_
    have f1 : 0 ≤ σ 52 2 ∧ σ 52 2 ≤ 12 := zb B hb (t := 52) (a := 2) (n := 3) (i := 2) (by decide +kernel) (by omega) (by omega)
    refine And.intro (fun (c2 : (σ 52 2) ≤ r) => ?_) (fun (c3 : r < (σ 52 2)) => ?_)
    · show zG E gJ1 md196 w gm_193 62 [(0, .inr (.inl 12)), (1, .inl to), (2, .inl n), (3, .inl 0)] σ K
      have e : r = N := by omega
      subst e
      exact z_com2 B ht n0 hK 13 n 0 σ (by omega) (by omega) hn hf hT
    · refine And.intro (show 0 ≤ 181 ∧ 181 < 402 from by omega) ?_
      have f4 : (-2147483648) ≤ σ 52 181 ∧ σ 52 181 ≤ 2147483647 := zb B hb (t := 52) (a := 179) (n := 185) (i := 181) (by decide +kernel) (by omega) (by omega)
      refine And.intro (show 0 ≤ r ∧ r ≤ 31 from by omega) (fun (z5 : Int) (h6 : (z5 = 1 ∧ tb (σ 52 181) r = true) ∨ (z5 = 0 ∧ tb (σ 52 181) r = false)) => ?_)
      rcases h6 with ⟨rfl, t7⟩ | ⟨rfl, t7⟩
      · refine And.intro (show 0 ≤ 1 ∧ 1 ≤ 1 from by omega) ?_
        refine And.intro (fun (q : 1 = 0) => absurd q (by decide)) (fun _ => ?_)
        refine And.intro (show 0 ≤ r ∧ r < 12 from by omega) ?_
        refine And.intro (show Int.negSucc 0 ≤ r ∧ r ≤ 11 from rgm (by omega)) ?_
        refine And.intro (show 0 ≤ 181 ∧ 181 < 402 from by omega) ?_
        refine And.intro (show 0 ≤ r ∧ r ≤ 31 from by omega) (fun (z8 : Int) (h9 : (z8 = 1 ∧ tb (σ 52 181) r = true) ∨ (z8 = 0 ∧ tb (σ 52 181) r = false)) => ?_)
        rcases h9 with ⟨rfl, t10⟩ | ⟨rfl, t10⟩
        · refine And.intro (show 0 ≤ 1 ∧ 1 ≤ 1 from by omega) ?_
          refine And.intro (fun _ => ?_) (fun (q : 1 = 0) => absurd q (by decide))
          refine And.intro (show 0 ≤ n ∧ n < 12 from by omega) ?_
          refine And.intro (show 0 ≤ r ∧ r ≤ 11 from by omega) ?_
          refine And.intro (show -2147483648 ≤ (n + 1) ∧ (n + 1) ≤ 2147483647 from by omega) ?_
          refine And.intro (show -2147483648 ≤ (r + 1) ∧ (r + 1) ≤ 2147483647 from by omega) ?_
          show zG E gJ1 md196 w gm_193 4 [(0, .inr (.inl 12)), (1, .inl to), (2, .inl (n + 1)), (3, .inl (r + 1))] (vup (vup σ 63 r r) 64 n r) K
          exact ih (n + 1) (r + 1) _ (by omega) (by omega) (by omega) (show σ 52 2 = N from hn) (zfr_up (zfr_up hf (by decide)) (by decide)) (show zT (vup σ 63 r r 63) (vup (vup σ 63 r r) 64 n r 64) (n + 1) (r + 1) from by rw [vup_f, vup_f]; exact zT_new h0 hT)
        · refine And.intro (show 0 ≤ 0 ∧ 0 ≤ 1 from by omega) ?_
          refine And.intro (fun (q : ¬ 0 = 0) => absurd q (by decide)) (fun _ => ?_)
          refine And.intro (show -2147483648 ≤ (r + 1) ∧ (r + 1) ≤ 2147483647 from by omega) ?_
          exfalso; simp_all
      · refine And.intro (show 0 ≤ 0 ∧ 0 ≤ 1 from by omega) ?_
        refine And.intro (fun _ => ?_) (fun (q : ¬ 0 = 0) => absurd q (by decide))
        refine And.intro (show 0 ≤ r ∧ r < 12 from by omega) ?_
        refine And.intro (show Int.negSucc 0 ≤ (-1) ∧ (-1) ≤ 11 from rgm (by omega)) ?_
        refine And.intro (show 0 ≤ 181 ∧ 181 < 402 from by omega) ?_
        refine And.intro (show 0 ≤ r ∧ r ≤ 31 from by omega) (fun (z11 : Int) (h12 : (z11 = 1 ∧ tb (σ 52 181) r = true) ∨ (z11 = 0 ∧ tb (σ 52 181) r = false)) => ?_)
        rcases h12 with ⟨rfl, t13⟩ | ⟨rfl, t13⟩
        · refine And.intro (show 0 ≤ 1 ∧ 1 ≤ 1 from by omega) ?_
          refine And.intro (fun _ => ?_) (fun (q : 1 = 0) => absurd q (by decide))
          refine And.intro (show 0 ≤ n ∧ n < 12 from by omega) ?_
          refine And.intro (show 0 ≤ r ∧ r ≤ 11 from by omega) ?_
          refine And.intro (show -2147483648 ≤ (n + 1) ∧ (n + 1) ≤ 2147483647 from by omega) ?_
          refine And.intro (show -2147483648 ≤ (r + 1) ∧ (r + 1) ≤ 2147483647 from by omega) ?_
          exfalso; simp_all
        · refine And.intro (show 0 ≤ 0 ∧ 0 ≤ 1 from by omega) ?_
          refine And.intro (fun (q : ¬ 0 = 0) => absurd q (by decide)) (fun _ => ?_)
          refine And.intro (show -2147483648 ≤ (r + 1) ∧ (r + 1) ≤ 2147483647 from by omega) ?_
          show zG E gJ1 md196 w gm_193 4 [(0, .inr (.inl 12)), (1, .inl to), (2, .inl n), (3, .inl (r + 1))] (vup σ 63 r (-1)) K
          exact ih n (r + 1) _ (by omega) (by omega) (by omega) (show σ 52 2 = N from hn) (zfr_up hf (by decide)) (show zT (vup σ 63 r (-1) 63) (σ 64) n (r + 1) from by rw [vup_f]; exact zT_no h0 hT)
theorem z_193 (B : zB E) : zOK E gJ1 md196 w 193 zs193 := by
  intro q hq vs σ K h
  have e0 : gMT 193 = some (gm_193, 5) := rfl
  rw [e0] at hq
  cases hq
  unfold zs193 at h
  split at h
  · rename_i to
    refine zbd (fun hb => zgo B (zS_cons (z_182 B) zS_nil) [] [(4, [0, 1, 2, 3]), (62, [0, 1, 2, 3]), (70, [0, 1, 2, 3, 4])] (fun m => Nat.beq m.2.2.2.2.1 141) (by decide +kernel) ?_)
    have fr := zb B hb (t := 52) (a := 2) (n := 3) (i := 2) (lo := 0) (hi := 12) (by decide +kernel) (by omega) (by omega)
    show zG E gJ1 md196 w gm_193 4 [(0, .inr (.inl 12)), (1, .inl to), (2, .inl 0), (3, .inl 0)] σ K
    exact z_com1 (N := σ 52 2) B h.1 fr h.2 13 0 0 σ (by omega) (by omega) (by omega) rfl zfr_refl zT_0
  · exact absurd h id
theorem z_cut4 (B : zB E) {σ0 : vS} {r N : Int} (n0 : 0 ≤ N ∧ N ≤ 12) (hr : 0 ≤ r ∧ r < N) {k n : Int} (k0 : 0 ≤ k ∧ k < 100) (hN : ∀ σ : vS, σ 52 2 = N → zfr [12, 62, 63, 64] σ0 σ → zG E gJ1 md196 w gm_196 160 [(0, .inr (.inl 12)), (1, .inl r), (2, .inl (k + 1))] σ K) : ∀ (m : Nat) (j o : Int) (σ : vS), j < (m : Int) → 0 ≤ j → j < n → σ 52 2 = N → zfr [12, 62, 63, 64] σ0 σ → zT (σ 63) (σ 64) n N → σ 64 j = o → zG E gJ1 md196 w gm_196 176 [(0, .inr (.inl 12)), (1, .inl r), (2, .inl k), (3, .inl o)] σ K := by
  intro m
  induction m with
  | zero => intro j o σ h; omega
  | succ m ih =>
    intro j o σ hm h0 h1 hn hf hT hjo
    have hQ := hT.1 j h0 h1
    have ho : 0 ≤ o ∧ o < N ∧ 0 ≤ σ 63 o := by
      rw [← hjo]
      exact ⟨hQ.1.1, hQ.1.2, hQ.2.1⟩
    refine zbd (fun hb => zgo B (zS_cons (z_193 B) (zS_cons (z_182 B) zS_nil)) [204, 224] [(25, [0, 1, 2]), (47, [0, 1, 2]), (160, [0, 1, 2]), (176, [0, 1, 2, 3])] (fun m => Nat.beq m.2.2.2.2.1 165) (by decide +kernel) ?_)
    refine And.intro (show 0 ≤ o ∧ o < 12 from by omega) ?_
    have f1 : (-1) ≤ σ 63 o ∧ σ 63 o ≤ 11 := zb B hb (t := 63) (a := 0) (n := 12) (i := o) (by decide +kernel) (by omega) (by omega)
    refine And.intro (fun (c2 : (σ 63 o) = o) => ?_) (fun (c3 : ¬ (σ 63 o) = o) => ?_)
    · refine And.intro (show -2147483648 ≤ (k + 1) ∧ (k + 1) ≤ 2147483647 from by omega) ?_
      show zG E gJ1 md196 w gm_196 160 [(0, .inr (.inl 12)), (1, .inl r), (2, .inl (k + 1))] σ K
      exact hN σ hn hf
    · refine And.intro (show 0 ≤ o ∧ o < 12 from by omega) ?_
      refine And.intro (show -2147483648 ≤ (12 * (σ 63 o)) ∧ (12 * (σ 63 o)) ≤ 2147483647 from by omega) ?_
      refine And.intro (show -2147483648 ≤ ((12 * (σ 63 o)) + o) ∧ ((12 * (σ 63 o)) + o) ≤ 2147483647 from by omega) ?_
      refine And.intro (show 0 ≤ ((12 * (σ 63 o)) + o) ∧ ((12 * (σ 63 o)) + o) < 144 from by omega) ?_
      have f4 : (-2147483648) ≤ σ 62 ((12 * (σ 63 o)) + o) ∧ σ 62 ((12 * (σ 63 o)) + o) ≤ 2147483647 := zb B hb (t := 62) (a := 0) (n := 144) (i := (12 * (σ 63 o)) + o) (by decide +kernel) (by omega) (by omega)
      refine fun (z5 : Int) (h6 : -2147483648 ≤ z5 ∧ z5 ≤ 2147483647) (e7 : z5 = vsub (σ 62 ((12 * (σ 63 o)) + o)) 1) => ?_
      refine And.intro (show 0 ≤ ((12 * (σ 63 o)) + o) ∧ ((12 * (σ 63 o)) + o) < 144 from by omega) ?_
      refine And.intro (show Int.negSucc 2147483647 ≤ z5 ∧ z5 ≤ 2147483647 from rgm (by omega)) ?_
      refine And.intro (show -2147483648 ≤ (12 * o) ∧ (12 * o) ≤ 2147483647 from by omega) ?_
      refine And.intro (show 0 ≤ o ∧ o < 12 from by omega) ?_
      refine And.intro (show -2147483648 ≤ ((12 * o) + (σ 63 o)) ∧ ((12 * o) + (σ 63 o)) ≤ 2147483647 from by omega) ?_
      refine And.intro (show 0 ≤ ((12 * o) + (σ 63 o)) ∧ ((12 * o) + (σ 63 o)) < 144 from by omega) ?_
      refine fun (z8 : Int) (h9 : -2147483648 ≤ z8 ∧ z8 ≤ 2147483647) (e10 : z8 = vadd ((vup σ 62 ((12 * (σ 63 o)) + o) z5) 62 ((12 * o) + (σ 63 o))) 1) => ?_
      refine And.intro (show 0 ≤ ((12 * o) + (σ 63 o)) ∧ ((12 * o) + (σ 63 o)) < 144 from by omega) ?_
      refine And.intro (show Int.negSucc 2147483647 ≤ z8 ∧ z8 ≤ 2147483647 from rgm (by omega)) ?_
      refine And.intro (show 0 ≤ o ∧ o < 12 from by omega) ?_
      show zG E gJ1 md196 w gm_196 176 [(0, .inr (.inl 12)), (1, .inl r), (2, .inl k), (3, .inl (σ 63 o))] (vup (vup σ 62 ((12 * (σ 63 o)) + o) z5) 62 ((12 * o) + (σ 63 o)) z8) K
      have hne : ¬ σ 63 o = o := by assumption
      rcases hQ.2.2 with g | ⟨i, i0, i1, i2⟩
      · exact absurd (by rw [hjo] at g; exact g) hne
      · rw [hjo] at i2
        exact ih i _ _ (by omega) i0 (by omega) (show σ 52 2 = N from hn) (zfr_up (zfr_up hf (by decide)) (by decide)) hT i2
theorem z_cut3 (B : zB E) {σ0 : vS} {r N : Int} (n0 : 0 ≤ N ∧ N ≤ 12) (hr : 0 ≤ r ∧ r < N) (hK : ∀ (z : Int) (σ : vS), zfr [12, 62, 63, 64] σ0 σ → -1 ≤ z ∧ z ≤ 99 → K (some (.inl z)) σ) : ∀ (m : Nat) (k : Int) (σ : vS), 100 - k < (m : Int) → 0 ≤ k → k ≤ 100 → σ 52 2 = N → zfr [12, 62, 63, 64] σ0 σ → zG E gJ1 md196 w gm_196 160 [(0, .inr (.inl 12)), (1, .inl r), (2, .inl k)] σ K := by
  intro m
  induction m with
  | zero => intro k σ h; omega
  | succ m ih =>
    intro k σ hm h0 h1 hn hf
    refine zbd (fun hb => zgo B (zS_cons (z_193 B) (zS_cons (z_182 B) zS_nil)) [204, 224] [(25, [0, 1, 2]), (47, [0, 1, 2]), (160, [0, 1, 2]), (176, [0, 1, 2, 3])] (fun m => Nat.beq m.2.2.2.2.1 165) (by decide +kernel) ?_)
    refine And.intro (fun (c1 : 100 ≤ k) => ?_) (fun (c2 : k < 100) => ?_)
    · refine And.intro (fun (c3 : 100 ≤ k) => ?_) (fun (c4 : k < 100) => ?_)
      · show K (some (.inl (-1))) σ
        exact hK _ _ hf (by omega)
      · show K (some (.inl k)) σ
        exact hK _ _ hf (by omega)
    · refine And.intro (show 0 ≤ r ∧ r ≤ 11 from by omega) (fun (z6 : Int) (σ5 : vS) (a7 : zfr [63, 64] σ σ5) (a8 : (z6 = 0 ∨ z6 = 1) ∧ (z6 = 1 → 0 ≤ σ5 63 r ∧ ∃ n : Int, zT (σ5 63) (σ5 64) n (σ5 52 2))) => ?_)
      have es : σ5 52 = σ 52 := a7 52 (by decide)
      have ef : zfr [12, 62, 63, 64] σ0 σ5 := fun t ht => by rw [a7 t (fun q => ht (by simp at q; rcases q with q | q <;> subst q <;> decide))]; exact hf t ht
      refine And.intro (fun (c9 : z6 = 0) => ?_) (fun (c10 : ¬ z6 = 0) => ?_)
      · refine And.intro (fun (c11 : 100 ≤ k) => ?_) (fun (c12 : k < 100) => ?_)
        · show K (some (.inl (-1))) σ5
          exact hK _ _ ef (by omega)
        · show K (some (.inl k)) σ5
          exact hK _ _ ef (by omega)
      · show zG E gJ1 md196 w gm_196 176 [(0, .inr (.inl 12)), (1, .inl r), (2, .inl k), (3, .inl r)] σ5 K
        obtain ⟨p1, n2, p2⟩ := a8.2 (by omega)
        have e2 : σ5 52 2 = N := by rw [es]; exact hn
        rw [e2] at p2
        obtain ⟨j, j0, j1, j2⟩ := p2.2.1 r hr.1 hr.2 p1
        exact z_cut4 B n0 hr ⟨h0, by omega⟩ (fun σ2 a1 a2 => ih (k + 1) σ2 (by omega) (by omega) (by omega) a1 a2) 13 j r σ5 (by have := zT_le p2 n0.1; omega) j0 j1 e2 ef p2 j2
theorem z_cut2 (B : zB E) {σ0 : vS} {r N : Int} (n0 : 0 ≤ N ∧ N ≤ 12) (hr : 0 ≤ r ∧ r < N) (hK : ∀ (z : Int) (σ : vS), zfr [12, 62, 63, 64] σ0 σ → -1 ≤ z ∧ z ≤ 99 → K (some (.inl z)) σ) : ∀ (m : Nat) (k : Int) (σ : vS), 20 - k < (m : Int) → 0 ≤ k → σ 52 2 = N → zfr [12, 62, 63, 64] σ0 σ → zG E gJ1 md196 w gm_196 47 [(0, .inr (.inl 12)), (1, .inl r), (2, .inl k)] σ K := by
  intro m
  induction m with
  | zero =>
    intro k σ hm h0 hn hf
    refine zbd (fun hb => zgo B (zS_cons (z_193 B) (zS_cons (z_182 B) zS_nil)) [204, 224] [(25, [0, 1, 2]), (47, [0, 1, 2]), (160, [0, 1, 2]), (176, [0, 1, 2, 3])] (fun m => Nat.beq m.2.2.2.2.1 165) (by decide +kernel) ?_)
    refine And.intro (show 0 ≤ 3 ∧ 3 < 402 from by omega) ?_
    have f1 : 0 ≤ σ 52 3 ∧ σ 52 3 ≤ 20 := zb B hb (t := 52) (a := 3) (n := 4) (i := 3) (by decide +kernel) (by omega) (by omega)
    refine And.intro (fun (c2 : (σ 52 3) ≤ k) => ?_) (fun (c3 : k < (σ 52 3)) => ?_)
    · show zG E gJ1 md196 w gm_196 160 [(0, .inr (.inl 12)), (1, .inl r), (2, .inl 0)] σ K
      exact z_cut3 B n0 hr hK 101 0 σ (by omega) (by omega) (by omega) hn hf
    · refine And.intro (show -2147483648 ≤ (69 + k) ∧ (69 + k) ≤ 2147483647 from by omega) ?_
      refine And.intro (show 0 ≤ (69 + k) ∧ (69 + k) < 402 from by omega) ?_
      have f4 : 0 ≤ σ 52 (69 + k) ∧ σ 52 (69 + k) ≤ 1 := zb B hb (t := 52) (a := 69) (n := 89) (i := 69 + k) (by decide +kernel) (by omega) (by omega)
      refine And.intro (fun (c5 : ¬ (σ 52 (69 + k)) = 1) => ?_) (fun (c6 : (σ 52 (69 + k)) = 1) => ?_)
      · refine And.intro (show 0 ≤ 184 ∧ 184 < 402 from by omega) ?_
        have f7 : (-2147483648) ≤ σ 52 184 ∧ σ 52 184 ≤ 2147483647 := zb B hb (t := 52) (a := 179) (n := 185) (i := 184) (by decide +kernel) (by omega) (by omega)
        refine And.intro (show 0 ≤ k ∧ k ≤ 31 from by omega) (fun (z8 : Int) (h9 : (z8 = 1 ∧ tb (σ 52 184) k = true) ∨ (z8 = 0 ∧ tb (σ 52 184) k = false)) => ?_)
        rcases h9 with ⟨rfl, t10⟩ | ⟨rfl, t10⟩
        · refine And.intro (fun (q : 1 = 0) => absurd q (by decide)) (fun _ => ?_)
          refine And.intro (show -2147483648 ≤ (29 + k) ∧ (29 + k) ≤ 2147483647 from by omega) ?_
          refine And.intro (show 0 ≤ (29 + k) ∧ (29 + k) < 402 from by omega) ?_
          have f11 : 0 ≤ σ 52 (29 + k) ∧ σ 52 (29 + k) ≤ 11 := zb B hb (t := 52) (a := 29) (n := 69) (i := 29 + k) (by decide +kernel) (by omega) (by omega)
          refine And.intro (show -2147483648 ≤ (12 * (σ 52 (29 + k))) ∧ (12 * (σ 52 (29 + k))) ≤ 2147483647 from by omega) ?_
          refine And.intro (show -2147483648 ≤ (49 + k) ∧ (49 + k) ≤ 2147483647 from by omega) ?_
          refine And.intro (show 0 ≤ (49 + k) ∧ (49 + k) < 402 from by omega) ?_
          have f12 : 0 ≤ σ 52 (49 + k) ∧ σ 52 (49 + k) ≤ 11 := zb B hb (t := 52) (a := 29) (n := 69) (i := 49 + k) (by decide +kernel) (by omega) (by omega)
          refine And.intro (show -2147483648 ≤ ((12 * (σ 52 (29 + k))) + (σ 52 (49 + k))) ∧ ((12 * (σ 52 (29 + k))) + (σ 52 (49 + k))) ≤ 2147483647 from by omega) ?_
          refine And.intro (show 0 ≤ ((12 * (σ 52 (29 + k))) + (σ 52 (49 + k))) ∧ ((12 * (σ 52 (29 + k))) + (σ 52 (49 + k))) < 144 from by omega) ?_
          refine And.intro (show Int.negSucc 2147483647 ≤ 0 ∧ 0 ≤ 2147483647 from rgm (by omega)) ?_
          refine And.intro (show -2147483648 ≤ (49 + k) ∧ (49 + k) ≤ 2147483647 from by omega) ?_
          refine And.intro (show 0 ≤ (49 + k) ∧ (49 + k) < 402 from by omega) ?_
          refine And.intro (show -2147483648 ≤ (12 * (σ 52 (49 + k))) ∧ (12 * (σ 52 (49 + k))) ≤ 2147483647 from by omega) ?_
          refine And.intro (show -2147483648 ≤ (29 + k) ∧ (29 + k) ≤ 2147483647 from by omega) ?_
          refine And.intro (show 0 ≤ (29 + k) ∧ (29 + k) < 402 from by omega) ?_
          refine And.intro (show -2147483648 ≤ ((12 * (σ 52 (49 + k))) + (σ 52 (29 + k))) ∧ ((12 * (σ 52 (49 + k))) + (σ 52 (29 + k))) ≤ 2147483647 from by omega) ?_
          refine And.intro (show 0 ≤ ((12 * (σ 52 (49 + k))) + (σ 52 (29 + k))) ∧ ((12 * (σ 52 (49 + k))) + (σ 52 (29 + k))) < 144 from by omega) ?_
          refine And.intro (show Int.negSucc 2147483647 ≤ 0 ∧ 0 ≤ 2147483647 from rgm (by omega)) ?_
          refine And.intro (show -2147483648 ≤ (k + 1) ∧ (k + 1) ≤ 2147483647 from by omega) ?_
          exfalso; omega
        · refine And.intro (fun _ => ?_) (fun (q : ¬ 0 = 0) => absurd q (by decide))
          refine And.intro (show -2147483648 ≤ (29 + k) ∧ (29 + k) ≤ 2147483647 from by omega) ?_
          refine And.intro (show 0 ≤ (29 + k) ∧ (29 + k) < 402 from by omega) ?_
          have f13 : 0 ≤ σ 52 (29 + k) ∧ σ 52 (29 + k) ≤ 11 := zb B hb (t := 52) (a := 29) (n := 69) (i := 29 + k) (by decide +kernel) (by omega) (by omega)
          refine And.intro (show -2147483648 ≤ (12 * (σ 52 (29 + k))) ∧ (12 * (σ 52 (29 + k))) ≤ 2147483647 from by omega) ?_
          refine And.intro (show -2147483648 ≤ (49 + k) ∧ (49 + k) ≤ 2147483647 from by omega) ?_
          refine And.intro (show 0 ≤ (49 + k) ∧ (49 + k) < 402 from by omega) ?_
          have f14 : 0 ≤ σ 52 (49 + k) ∧ σ 52 (49 + k) ≤ 11 := zb B hb (t := 52) (a := 29) (n := 69) (i := 49 + k) (by decide +kernel) (by omega) (by omega)
          refine And.intro (show -2147483648 ≤ ((12 * (σ 52 (29 + k))) + (σ 52 (49 + k))) ∧ ((12 * (σ 52 (29 + k))) + (σ 52 (49 + k))) ≤ 2147483647 from by omega) ?_
          refine And.intro (show 0 ≤ ((12 * (σ 52 (29 + k))) + (σ 52 (49 + k))) ∧ ((12 * (σ 52 (29 + k))) + (σ 52 (49 + k))) < 144 from by omega) ?_
          refine And.intro (show Int.negSucc 2147483647 ≤ 1 ∧ 1 ≤ 2147483647 from rgm (by omega)) ?_
          refine And.intro (show -2147483648 ≤ (49 + k) ∧ (49 + k) ≤ 2147483647 from by omega) ?_
          refine And.intro (show 0 ≤ (49 + k) ∧ (49 + k) < 402 from by omega) ?_
          refine And.intro (show -2147483648 ≤ (12 * (σ 52 (49 + k))) ∧ (12 * (σ 52 (49 + k))) ≤ 2147483647 from by omega) ?_
          refine And.intro (show -2147483648 ≤ (29 + k) ∧ (29 + k) ≤ 2147483647 from by omega) ?_
          refine And.intro (show 0 ≤ (29 + k) ∧ (29 + k) < 402 from by omega) ?_
          refine And.intro (show -2147483648 ≤ ((12 * (σ 52 (49 + k))) + (σ 52 (29 + k))) ∧ ((12 * (σ 52 (49 + k))) + (σ 52 (29 + k))) ≤ 2147483647 from by omega) ?_
          refine And.intro (show 0 ≤ ((12 * (σ 52 (49 + k))) + (σ 52 (29 + k))) ∧ ((12 * (σ 52 (49 + k))) + (σ 52 (29 + k))) < 144 from by omega) ?_
          refine And.intro (show Int.negSucc 2147483647 ≤ 1 ∧ 1 ≤ 2147483647 from rgm (by omega)) ?_
          refine And.intro (show -2147483648 ≤ (k + 1) ∧ (k + 1) ≤ 2147483647 from by omega) ?_
          exfalso; omega
      · refine And.intro (show -2147483648 ≤ (29 + k) ∧ (29 + k) ≤ 2147483647 from by omega) ?_
        refine And.intro (show 0 ≤ (29 + k) ∧ (29 + k) < 402 from by omega) ?_
        have f15 : 0 ≤ σ 52 (29 + k) ∧ σ 52 (29 + k) ≤ 11 := zb B hb (t := 52) (a := 29) (n := 69) (i := 29 + k) (by decide +kernel) (by omega) (by omega)
        refine And.intro (show -2147483648 ≤ (12 * (σ 52 (29 + k))) ∧ (12 * (σ 52 (29 + k))) ≤ 2147483647 from by omega) ?_
        refine And.intro (show -2147483648 ≤ (49 + k) ∧ (49 + k) ≤ 2147483647 from by omega) ?_
        refine And.intro (show 0 ≤ (49 + k) ∧ (49 + k) < 402 from by omega) ?_
        have f16 : 0 ≤ σ 52 (49 + k) ∧ σ 52 (49 + k) ≤ 11 := zb B hb (t := 52) (a := 29) (n := 69) (i := 49 + k) (by decide +kernel) (by omega) (by omega)
        refine And.intro (show -2147483648 ≤ ((12 * (σ 52 (29 + k))) + (σ 52 (49 + k))) ∧ ((12 * (σ 52 (29 + k))) + (σ 52 (49 + k))) ≤ 2147483647 from by omega) ?_
        refine And.intro (show 0 ≤ ((12 * (σ 52 (29 + k))) + (σ 52 (49 + k))) ∧ ((12 * (σ 52 (29 + k))) + (σ 52 (49 + k))) < 144 from by omega) ?_
        refine And.intro (show Int.negSucc 2147483647 ≤ 100 ∧ 100 ≤ 2147483647 from rgm (by omega)) ?_
        refine And.intro (show -2147483648 ≤ (49 + k) ∧ (49 + k) ≤ 2147483647 from by omega) ?_
        refine And.intro (show 0 ≤ (49 + k) ∧ (49 + k) < 402 from by omega) ?_
        refine And.intro (show -2147483648 ≤ (12 * (σ 52 (49 + k))) ∧ (12 * (σ 52 (49 + k))) ≤ 2147483647 from by omega) ?_
        refine And.intro (show -2147483648 ≤ (29 + k) ∧ (29 + k) ≤ 2147483647 from by omega) ?_
        refine And.intro (show 0 ≤ (29 + k) ∧ (29 + k) < 402 from by omega) ?_
        refine And.intro (show -2147483648 ≤ ((12 * (σ 52 (49 + k))) + (σ 52 (29 + k))) ∧ ((12 * (σ 52 (49 + k))) + (σ 52 (29 + k))) ≤ 2147483647 from by omega) ?_
        refine And.intro (show 0 ≤ ((12 * (σ 52 (49 + k))) + (σ 52 (29 + k))) ∧ ((12 * (σ 52 (49 + k))) + (σ 52 (29 + k))) < 144 from by omega) ?_
        refine And.intro (show Int.negSucc 2147483647 ≤ 100 ∧ 100 ≤ 2147483647 from rgm (by omega)) ?_
        refine And.intro (show -2147483648 ≤ (k + 1) ∧ (k + 1) ≤ 2147483647 from by omega) ?_
        exfalso; omega
  | succ m ih =>
    intro k σ hm h0 hn hf
    refine zbd (fun hb => zgo B (zS_cons (z_193 B) (zS_cons (z_182 B) zS_nil)) [204, 224] [(25, [0, 1, 2]), (47, [0, 1, 2]), (160, [0, 1, 2]), (176, [0, 1, 2, 3])] (fun m => Nat.beq m.2.2.2.2.1 165) (by decide +kernel) ?_)
    refine And.intro (show 0 ≤ 3 ∧ 3 < 402 from by omega) ?_
    have f1 : 0 ≤ σ 52 3 ∧ σ 52 3 ≤ 20 := zb B hb (t := 52) (a := 3) (n := 4) (i := 3) (by decide +kernel) (by omega) (by omega)
    refine And.intro (fun (c2 : (σ 52 3) ≤ k) => ?_) (fun (c3 : k < (σ 52 3)) => ?_)
    · show zG E gJ1 md196 w gm_196 160 [(0, .inr (.inl 12)), (1, .inl r), (2, .inl 0)] σ K
      exact z_cut3 B n0 hr hK 101 0 σ (by omega) (by omega) (by omega) hn hf
    · refine And.intro (show -2147483648 ≤ (69 + k) ∧ (69 + k) ≤ 2147483647 from by omega) ?_
      refine And.intro (show 0 ≤ (69 + k) ∧ (69 + k) < 402 from by omega) ?_
      have f4 : 0 ≤ σ 52 (69 + k) ∧ σ 52 (69 + k) ≤ 1 := zb B hb (t := 52) (a := 69) (n := 89) (i := 69 + k) (by decide +kernel) (by omega) (by omega)
      refine And.intro (fun (c5 : ¬ (σ 52 (69 + k)) = 1) => ?_) (fun (c6 : (σ 52 (69 + k)) = 1) => ?_)
      · refine And.intro (show 0 ≤ 184 ∧ 184 < 402 from by omega) ?_
        have f7 : (-2147483648) ≤ σ 52 184 ∧ σ 52 184 ≤ 2147483647 := zb B hb (t := 52) (a := 179) (n := 185) (i := 184) (by decide +kernel) (by omega) (by omega)
        refine And.intro (show 0 ≤ k ∧ k ≤ 31 from by omega) (fun (z8 : Int) (h9 : (z8 = 1 ∧ tb (σ 52 184) k = true) ∨ (z8 = 0 ∧ tb (σ 52 184) k = false)) => ?_)
        rcases h9 with ⟨rfl, t10⟩ | ⟨rfl, t10⟩
        · refine And.intro (fun (q : 1 = 0) => absurd q (by decide)) (fun _ => ?_)
          refine And.intro (show -2147483648 ≤ (29 + k) ∧ (29 + k) ≤ 2147483647 from by omega) ?_
          refine And.intro (show 0 ≤ (29 + k) ∧ (29 + k) < 402 from by omega) ?_
          have f11 : 0 ≤ σ 52 (29 + k) ∧ σ 52 (29 + k) ≤ 11 := zb B hb (t := 52) (a := 29) (n := 69) (i := 29 + k) (by decide +kernel) (by omega) (by omega)
          refine And.intro (show -2147483648 ≤ (12 * (σ 52 (29 + k))) ∧ (12 * (σ 52 (29 + k))) ≤ 2147483647 from by omega) ?_
          refine And.intro (show -2147483648 ≤ (49 + k) ∧ (49 + k) ≤ 2147483647 from by omega) ?_
          refine And.intro (show 0 ≤ (49 + k) ∧ (49 + k) < 402 from by omega) ?_
          have f12 : 0 ≤ σ 52 (49 + k) ∧ σ 52 (49 + k) ≤ 11 := zb B hb (t := 52) (a := 29) (n := 69) (i := 49 + k) (by decide +kernel) (by omega) (by omega)
          refine And.intro (show -2147483648 ≤ ((12 * (σ 52 (29 + k))) + (σ 52 (49 + k))) ∧ ((12 * (σ 52 (29 + k))) + (σ 52 (49 + k))) ≤ 2147483647 from by omega) ?_
          refine And.intro (show 0 ≤ ((12 * (σ 52 (29 + k))) + (σ 52 (49 + k))) ∧ ((12 * (σ 52 (29 + k))) + (σ 52 (49 + k))) < 144 from by omega) ?_
          refine And.intro (show Int.negSucc 2147483647 ≤ 0 ∧ 0 ≤ 2147483647 from rgm (by omega)) ?_
          refine And.intro (show -2147483648 ≤ (49 + k) ∧ (49 + k) ≤ 2147483647 from by omega) ?_
          refine And.intro (show 0 ≤ (49 + k) ∧ (49 + k) < 402 from by omega) ?_
          refine And.intro (show -2147483648 ≤ (12 * (σ 52 (49 + k))) ∧ (12 * (σ 52 (49 + k))) ≤ 2147483647 from by omega) ?_
          refine And.intro (show -2147483648 ≤ (29 + k) ∧ (29 + k) ≤ 2147483647 from by omega) ?_
          refine And.intro (show 0 ≤ (29 + k) ∧ (29 + k) < 402 from by omega) ?_
          refine And.intro (show -2147483648 ≤ ((12 * (σ 52 (49 + k))) + (σ 52 (29 + k))) ∧ ((12 * (σ 52 (49 + k))) + (σ 52 (29 + k))) ≤ 2147483647 from by omega) ?_
          refine And.intro (show 0 ≤ ((12 * (σ 52 (49 + k))) + (σ 52 (29 + k))) ∧ ((12 * (σ 52 (49 + k))) + (σ 52 (29 + k))) < 144 from by omega) ?_
          refine And.intro (show Int.negSucc 2147483647 ≤ 0 ∧ 0 ≤ 2147483647 from rgm (by omega)) ?_
          refine And.intro (show -2147483648 ≤ (k + 1) ∧ (k + 1) ≤ 2147483647 from by omega) ?_
          show zG E gJ1 md196 w gm_196 47 [(0, .inr (.inl 12)), (1, .inl r), (2, .inl (k + 1))] (vup (vup σ 62 ((12 * (σ 52 (29 + k))) + (σ 52 (49 + k))) 0) 62 ((12 * (σ 52 (49 + k))) + (σ 52 (29 + k))) 0) K
          exact ih (k + 1) _ (by omega) (by omega) (show σ 52 2 = N from hn) (zfr_up (zfr_up hf (by decide)) (by decide))
        · refine And.intro (fun _ => ?_) (fun (q : ¬ 0 = 0) => absurd q (by decide))
          refine And.intro (show -2147483648 ≤ (29 + k) ∧ (29 + k) ≤ 2147483647 from by omega) ?_
          refine And.intro (show 0 ≤ (29 + k) ∧ (29 + k) < 402 from by omega) ?_
          have f13 : 0 ≤ σ 52 (29 + k) ∧ σ 52 (29 + k) ≤ 11 := zb B hb (t := 52) (a := 29) (n := 69) (i := 29 + k) (by decide +kernel) (by omega) (by omega)
          refine And.intro (show -2147483648 ≤ (12 * (σ 52 (29 + k))) ∧ (12 * (σ 52 (29 + k))) ≤ 2147483647 from by omega) ?_
          refine And.intro (show -2147483648 ≤ (49 + k) ∧ (49 + k) ≤ 2147483647 from by omega) ?_
          refine And.intro (show 0 ≤ (49 + k) ∧ (49 + k) < 402 from by omega) ?_
          have f14 : 0 ≤ σ 52 (49 + k) ∧ σ 52 (49 + k) ≤ 11 := zb B hb (t := 52) (a := 29) (n := 69) (i := 49 + k) (by decide +kernel) (by omega) (by omega)
          refine And.intro (show -2147483648 ≤ ((12 * (σ 52 (29 + k))) + (σ 52 (49 + k))) ∧ ((12 * (σ 52 (29 + k))) + (σ 52 (49 + k))) ≤ 2147483647 from by omega) ?_
          refine And.intro (show 0 ≤ ((12 * (σ 52 (29 + k))) + (σ 52 (49 + k))) ∧ ((12 * (σ 52 (29 + k))) + (σ 52 (49 + k))) < 144 from by omega) ?_
          refine And.intro (show Int.negSucc 2147483647 ≤ 1 ∧ 1 ≤ 2147483647 from rgm (by omega)) ?_
          refine And.intro (show -2147483648 ≤ (49 + k) ∧ (49 + k) ≤ 2147483647 from by omega) ?_
          refine And.intro (show 0 ≤ (49 + k) ∧ (49 + k) < 402 from by omega) ?_
          refine And.intro (show -2147483648 ≤ (12 * (σ 52 (49 + k))) ∧ (12 * (σ 52 (49 + k))) ≤ 2147483647 from by omega) ?_
          refine And.intro (show -2147483648 ≤ (29 + k) ∧ (29 + k) ≤ 2147483647 from by omega) ?_
          refine And.intro (show 0 ≤ (29 + k) ∧ (29 + k) < 402 from by omega) ?_
          refine And.intro (show -2147483648 ≤ ((12 * (σ 52 (49 + k))) + (σ 52 (29 + k))) ∧ ((12 * (σ 52 (49 + k))) + (σ 52 (29 + k))) ≤ 2147483647 from by omega) ?_
          refine And.intro (show 0 ≤ ((12 * (σ 52 (49 + k))) + (σ 52 (29 + k))) ∧ ((12 * (σ 52 (49 + k))) + (σ 52 (29 + k))) < 144 from by omega) ?_
          refine And.intro (show Int.negSucc 2147483647 ≤ 1 ∧ 1 ≤ 2147483647 from rgm (by omega)) ?_
          refine And.intro (show -2147483648 ≤ (k + 1) ∧ (k + 1) ≤ 2147483647 from by omega) ?_
          show zG E gJ1 md196 w gm_196 47 [(0, .inr (.inl 12)), (1, .inl r), (2, .inl (k + 1))] (vup (vup σ 62 ((12 * (σ 52 (29 + k))) + (σ 52 (49 + k))) 1) 62 ((12 * (σ 52 (49 + k))) + (σ 52 (29 + k))) 1) K
          exact ih (k + 1) _ (by omega) (by omega) (show σ 52 2 = N from hn) (zfr_up (zfr_up hf (by decide)) (by decide))
      · refine And.intro (show -2147483648 ≤ (29 + k) ∧ (29 + k) ≤ 2147483647 from by omega) ?_
        refine And.intro (show 0 ≤ (29 + k) ∧ (29 + k) < 402 from by omega) ?_
        have f15 : 0 ≤ σ 52 (29 + k) ∧ σ 52 (29 + k) ≤ 11 := zb B hb (t := 52) (a := 29) (n := 69) (i := 29 + k) (by decide +kernel) (by omega) (by omega)
        refine And.intro (show -2147483648 ≤ (12 * (σ 52 (29 + k))) ∧ (12 * (σ 52 (29 + k))) ≤ 2147483647 from by omega) ?_
        refine And.intro (show -2147483648 ≤ (49 + k) ∧ (49 + k) ≤ 2147483647 from by omega) ?_
        refine And.intro (show 0 ≤ (49 + k) ∧ (49 + k) < 402 from by omega) ?_
        have f16 : 0 ≤ σ 52 (49 + k) ∧ σ 52 (49 + k) ≤ 11 := zb B hb (t := 52) (a := 29) (n := 69) (i := 49 + k) (by decide +kernel) (by omega) (by omega)
        refine And.intro (show -2147483648 ≤ ((12 * (σ 52 (29 + k))) + (σ 52 (49 + k))) ∧ ((12 * (σ 52 (29 + k))) + (σ 52 (49 + k))) ≤ 2147483647 from by omega) ?_
        refine And.intro (show 0 ≤ ((12 * (σ 52 (29 + k))) + (σ 52 (49 + k))) ∧ ((12 * (σ 52 (29 + k))) + (σ 52 (49 + k))) < 144 from by omega) ?_
        refine And.intro (show Int.negSucc 2147483647 ≤ 100 ∧ 100 ≤ 2147483647 from rgm (by omega)) ?_
        refine And.intro (show -2147483648 ≤ (49 + k) ∧ (49 + k) ≤ 2147483647 from by omega) ?_
        refine And.intro (show 0 ≤ (49 + k) ∧ (49 + k) < 402 from by omega) ?_
        refine And.intro (show -2147483648 ≤ (12 * (σ 52 (49 + k))) ∧ (12 * (σ 52 (49 + k))) ≤ 2147483647 from by omega) ?_
        refine And.intro (show -2147483648 ≤ (29 + k) ∧ (29 + k) ≤ 2147483647 from by omega) ?_
        refine And.intro (show 0 ≤ (29 + k) ∧ (29 + k) < 402 from by omega) ?_
        refine And.intro (show -2147483648 ≤ ((12 * (σ 52 (49 + k))) + (σ 52 (29 + k))) ∧ ((12 * (σ 52 (49 + k))) + (σ 52 (29 + k))) ≤ 2147483647 from by omega) ?_
        refine And.intro (show 0 ≤ ((12 * (σ 52 (49 + k))) + (σ 52 (29 + k))) ∧ ((12 * (σ 52 (49 + k))) + (σ 52 (29 + k))) < 144 from by omega) ?_
        refine And.intro (show Int.negSucc 2147483647 ≤ 100 ∧ 100 ≤ 2147483647 from rgm (by omega)) ?_
        refine And.intro (show -2147483648 ≤ (k + 1) ∧ (k + 1) ≤ 2147483647 from by omega) ?_
        show zG E gJ1 md196 w gm_196 47 [(0, .inr (.inl 12)), (1, .inl r), (2, .inl (k + 1))] (vup (vup σ 62 ((12 * (σ 52 (29 + k))) + (σ 52 (49 + k))) 100) 62 ((12 * (σ 52 (49 + k))) + (σ 52 (29 + k))) 100) K
        exact ih (k + 1) _ (by omega) (by omega) (show σ 52 2 = N from hn) (zfr_up (zfr_up hf (by decide)) (by decide))
theorem z_cut1 (B : zB E) {σ0 : vS} {r N : Int} (n0 : 0 ≤ N ∧ N ≤ 12) (hr : 0 ≤ r ∧ r < N) (hK : ∀ (z : Int) (σ : vS), zfr [12, 62, 63, 64] σ0 σ → -1 ≤ z ∧ z ≤ 99 → K (some (.inl z)) σ) : ∀ (m : Nat) (k : Int) (σ : vS), 144 - k < (m : Int) → 0 ≤ k → k ≤ 144 → σ 52 2 = N → zfr [12, 62, 63, 64] σ0 σ → zG E gJ1 md196 w gm_196 25 [(0, .inr (.inl 12)), (1, .inl r), (2, .inl k)] σ K := by
  intro m
  induction m with
  | zero => intro k σ h; omega
  | succ m ih =>
    intro k σ hm h0 h1 hn hf
    refine zbd (fun hb => zgo B (zS_cons (z_193 B) (zS_cons (z_182 B) zS_nil)) [204, 224] [(25, [0, 1, 2]), (47, [0, 1, 2]), (160, [0, 1, 2]), (176, [0, 1, 2, 3])] (fun m => Nat.beq m.2.2.2.2.1 165) (by decide +kernel) ?_)
    refine And.intro (fun (c1 : 144 ≤ k) => ?_) (fun (c2 : k < 144) => ?_)
    · show zG E gJ1 md196 w gm_196 47 [(0, .inr (.inl 12)), (1, .inl r), (2, .inl 0)] σ K
      exact z_cut2 B n0 hr hK 21 0 σ (by omega) (by omega) hn hf
    · refine And.intro (show 0 ≤ k ∧ k < 144 from by omega) ?_
      refine And.intro (show Int.negSucc 2147483647 ≤ 0 ∧ 0 ≤ 2147483647 from rgm (by omega)) ?_
      refine And.intro (show -2147483648 ≤ (k + 1) ∧ (k + 1) ≤ 2147483647 from by omega) ?_
      show zG E gJ1 md196 w gm_196 25 [(0, .inr (.inl 12)), (1, .inl r), (2, .inl (k + 1))] (vup σ 62 k 0) K
      exact ih (k + 1) _ (by omega) (by omega) (by omega) (show σ 52 2 = N from hn) (zfr_up hf (by decide))
theorem z_cut0 (B : zB E) {σ0 : vS} {r : Int} (hK : ∀ (z : Int) (σ : vS), zfr [12, 62, 63, 64] σ0 σ → -1 ≤ z ∧ z ≤ 99 → K (some (.inl z)) σ) (hr : -2147483648 ≤ r ∧ r ≤ 2147483647) (hf : zfr [12, 62, 63, 64] σ0 σ) : zG E gJ1 md196 w gm_196 0 [(0, .inr (.inl 12)), (1, .inl r)] σ K := by
  refine zbd (fun hb => zgo B (zS_cons (z_193 B) (zS_cons (z_182 B) zS_nil)) [204, 224] [(25, [0, 1, 2]), (47, [0, 1, 2]), (160, [0, 1, 2]), (176, [0, 1, 2, 3])] (fun m => Nat.beq m.2.2.2.2.1 165) (by decide +kernel) ?_)
  have fr := zb B hb (t := 52) (a := 2) (n := 3) (i := 2) (lo := 0) (hi := 12) (by decide +kernel) (by omega) (by omega)
  refine And.intro (show Int.negSucc 2147483647 ≤ 0 ∧ 0 ≤ 2147483647 from rgm (by omega)) ?_
  refine And.intro (show 0 ≤ 2 ∧ 2 < 402 from by omega) ?_
  have f1 : 0 ≤ σ 52 2 ∧ σ 52 2 ≤ 12 := zb B hb (t := 52) (a := 2) (n := 3) (i := 2) (by decide +kernel) (by omega) (by omega)
  refine And.intro (show -2147483648 ≤ ((σ 52 2) - 1) ∧ ((σ 52 2) - 1) ≤ 2147483647 from by omega) ?_
  refine And.intro (fun (c2 : r < 0) => ?_) (fun (c3 : 0 ≤ r) => ?_)
  · refine And.intro (show 0 ≤ 0 ∧ 0 ≤ 1 from by omega) ?_
    refine And.intro (show 0 ≤ 0 ∧ 0 ≤ 1 from by omega) ?_
    refine And.intro (fun _ => ?_) (fun (q : ¬ 0 = 0) => absurd q (by decide))
    show K (some (.inl (-1))) (vup σ 12 0 0)
    exact hK _ _ (zfr_up hf (by decide)) (by omega)
  · refine And.intro (fun (c4 : ((σ 52 2) - 1) < r) => ?_) (fun (c5 : r ≤ ((σ 52 2) - 1)) => ?_)
    · refine And.intro (show 0 ≤ 0 ∧ 0 ≤ 1 from by omega) ?_
      refine And.intro (show 0 ≤ 0 ∧ 0 ≤ 1 from by omega) ?_
      refine And.intro (fun _ => ?_) (fun (q : ¬ 0 = 0) => absurd q (by decide))
      show K (some (.inl (-1))) (vup σ 12 0 0)
      exact hK _ _ (zfr_up hf (by decide)) (by omega)
    · refine And.intro (show 0 ≤ 1 ∧ 1 ≤ 1 from by omega) ?_
      refine And.intro (show 0 ≤ 1 ∧ 1 ≤ 1 from by omega) ?_
      refine And.intro (fun (q : 1 = 0) => absurd q (by decide)) (fun _ => ?_)
      refine And.intro (show 0 ≤ 181 ∧ 181 < 402 from by omega) ?_
      have f6 : (-2147483648) ≤ σ 52 181 ∧ σ 52 181 ≤ 2147483647 := zb B hb (t := 52) (a := 179) (n := 185) (i := 181) (by decide +kernel) (by omega) (by omega)
      refine And.intro (show 0 ≤ r ∧ r ≤ 31 from by omega) (fun (z7 : Int) (h8 : (z7 = 1 ∧ tb (σ 52 181) r = true) ∨ (z7 = 0 ∧ tb (σ 52 181) r = false)) => ?_)
      rcases h8 with ⟨rfl, t9⟩ | ⟨rfl, t9⟩
      · refine And.intro (show 0 ≤ 1 ∧ 1 ≤ 1 from by omega) ?_
        refine And.intro (fun (q : 1 = 0) => absurd q (by decide)) (fun _ => ?_)
        show K (some (.inl (-1))) (vup σ 12 0 0)
        exact hK _ _ (zfr_up hf (by decide)) (by omega)
      · refine And.intro (show 0 ≤ 0 ∧ 0 ≤ 1 from by omega) ?_
        refine And.intro (fun _ => ?_) (fun (q : ¬ 0 = 0) => absurd q (by decide))
        show zG E gJ1 md196 w gm_196 25 [(0, .inr (.inl 12)), (1, .inl r), (2, .inl 0)] (vup σ 12 0 0) K
        exact z_cut1 (N := σ 52 2) B fr (by omega) hK 145 0 _ (by omega) (by omega) (by omega) rfl (zfr_up hf (by decide))
theorem zc_196 (B : zB E) : zH E gJ1 (gm_196, 4) gc_196_0 := by
  refine z_holds B (by decide) (fun w vs σ hv hX hb => ?_)
  have hv : vFits [.inr (.inl 12), .inl (.negSucc 2147483647, .ofNat 2147483647)] vs := hv
  obtain ⟨r, rfl, h1⟩ := fits2 hv
  exact z_cut0 B (fun z σ2 hf hz => ⟨vX_fr hX (hf 52 (by decide)) (hf 74 (by decide)), _, List.mem_cons_self, hz⟩) h1 zfr_refl
end Z4
