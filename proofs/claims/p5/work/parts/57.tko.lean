/-! THE CLASS READS: readRun, exactly. -/
noncomputable section
def ctx (σ : vS) : Int → Int := fun q => vand (σ 34 q) 255
/-- what advance leaves as it is -/
def cfr (σ0 σ : vS) : Prop := (∀ t, ¬ t = 7 → σ t = σ0 t) ∧ ∀ i : Int, ¬ i = 4 → ¬ i = 5 → ¬ i = 6 → ¬ i = 7 → ¬ i = 10 → σ 7 i = σ0 7 i
/-- a token that is a run: kind, value, code -/
def ctr (τ : Int → Int) (f : Int → Int) (b : Int) (k : Nat) (kind val code : Int) : Prop := (tls τ b k ∧ k ≤ 7 ∧ code = tc τ b k ∧ ckw f code val ∧ ((val = -1 ∧ kind = 3) ∨ (¬ val = -1 ∧ kind = 2))) ∨ (tds τ b k ∧ k ≤ 2 ∧ kind = 4 ∧ val = tn τ b k) ∨ (¬ (tls τ b k ∧ k ≤ 7) ∧ ¬ (tds τ b k ∧ k ≤ 2) ∧ kind = 1)
/-- inside a run -/
def crn (σ0 : vS) (b : Int) (k : Nat) (lt dg num : Int) (σ : vS) : Prop := cfr σ0 σ ∧ σ 7 5 = b ∧ σ 7 10 = b + (k : Int) ∧ ((k : Int) = lt + dg ∧ 0 ≤ lt ∧ 0 ≤ dg) ∧ (dg = 0 ↔ tls (ctx σ0) b k) ∧ (lt = 0 ↔ tds (ctx σ0) b k) ∧ (dg = 0 → k ≤ 7 → σ 7 7 = tc (ctx σ0) b k) ∧ (lt = 0 → k ≤ 2 → num = tn (ctx σ0) b k) ∧ tE (fun q => tal (ctx σ0 q)) (σ0 7 1) (b + (k : Int)) = tE (fun q => tal (ctx σ0 q)) (σ0 7 1) b ∧ (-2147483648 ≤ num ∧ num ≤ 2147483647) ∧ b + (k : Int) ≤ 940
def cS : List (Nat × vSpL) := [(63, cs63), (67, cs67), (66, cs66), (64, cs64), (70, cs70)]
/-- what the class's reader may write -/
def md72 : aMd := [(7, 2, 8), (7, 9, 11), (78, 8, 10), (79, 0, 3), (80, 0, 6), (81, 0, 6), (82, 0, 12), (83, 0, 12), (84, 0, 20), (85, 0, 20), (86, 0, 72), (87, 5, 10), (88, 0, 12), (89, 0, 6), (90, 0, 6), (91, 0, 6), (92, 0, 6), (102, 3, 5), (103, 0, 40), (104, 0, 40)]
end
section ZC3
variable {E : zE} {md : aMd} {w : va_W} {σ : vS} {K : vKL}
theorem cS_ok (X : zX gKX E) (B : zB E) : zSC E md w cS := zS_consC (ck_63 X B) (zS_consC (ck_67 X B) (zS_consC (ck_66 X B) (zS_consC (ck_64 X B) (zS_consC (ck_70 X B) zS_nilC))))
theorem cfr_up {σ0 σ : vS} {i x : Int} (h : cfr σ0 σ) (hi : i = 4 ∨ i = 5 ∨ i = 6 ∨ i = 7 ∨ i = 10) : cfr σ0 (vup σ 7 i x) := ⟨fun t ht => by rw [vup_fr ht]; exact h.1 t ht, fun j h1 h2 h3 h4 h5 => by rw [vup_ne 7 j (fun q => by have := q.2; omega)]; exact h.2 j h1 h2 h3 h4 h5⟩
theorem cba_of {σ0 : vS} (h : cfr σ0 σ) {i : Int} : cba σ i = if 0 ≤ i ∧ i < σ0 7 1 then ctx σ0 i else 0 := by
  unfold cba ctx
  rw [h.2 1 (by decide) (by decide) (by decide) (by decide) (by decide), h.1 34 (by decide)]
theorem ckw_b {f : Int → Int} {x r : Int} (h : ckw f x r) : -1 ≤ r ∧ r < 30 := by
  rcases h with ⟨h, -⟩ | ⟨h, -⟩ <;> omega
theorem cgo_iff {c : Int} : cgo c = 0 ↔ ¬ ((97 ≤ c ∧ c ≤ 122) ∨ (48 ≤ c ∧ c ≤ 57)) := by
  unfold cgo
  by_cases h : (97 ≤ c ∧ c ≤ 122) ∨ (48 ≤ c ∧ c ≤ 57)
  · rw [if_pos h]; exact ⟨fun q => absurd q (by decide), fun q => absurd h q⟩
  · rw [if_neg h]; exact ⟨fun _ => h, fun _ => rfl⟩
theorem p27 {k : Nat} (hk : k < 7) : (27 : Int) ^ k ≤ 387420489 := by
  match k, hk with
  | 0, _ => decide
  | 1, _ => decide
  | 2, _ => decide
  | 3, _ => decide
  | 4, _ => decide
  | 5, _ => decide
  | 6, _ => decide
  | n + 7, h => omega
/-- a letter more -/
theorem crn_l {σ0 σ2 : vS} {b lt dg num c : Int} {k : Nat} (h : crn σ0 b k lt dg num σ) (hN : σ0 7 1 ≤ 940) (hlt : b + (k : Int) < σ0 7 1) (hc : c = ctx σ0 (b + (k : Int))) (hc2 : 97 ≤ c ∧ c ≤ 122) (hr : cfr σ0 σ2) (e5 : σ2 7 5 = σ 7 5) (e10 : σ2 7 10 = σ 7 10 + 1) (e7 : (0 ≤ σ 7 7 ∧ σ 7 7 < 10460353203) → σ2 7 7 = σ 7 7 * 27 + (c - 96)) : crn σ0 b (k + 1) (lt + 1) dg num σ2 := by
  obtain ⟨h1, h2, h3, h4, h5, h6, h7, h8, h9, h10, h11⟩ := h
  rw [hc] at hc2 e7
  refine ⟨hr, by rw [e5, h2], by rw [e10, h3]; omega, by omega, ?_, ?_, fun q1 q2 => ?_, fun q => by omega, ?_, h10, by omega⟩
  · unfold tls
    rw [tl_more]
    exact ⟨fun q => ⟨h5.mp q, hc2⟩, fun q => h5.mpr q.1⟩
  · unfold tds
    rw [tl_more]
    exact ⟨fun q => by omega, fun q => by omega⟩
  · have hb := tc_b (h5.mp q1)
    have := p27 (k := k) (by omega)
    have e := h7 q1 (by omega)
    rw [e7 (by rw [e]; omega), e]
    rfl
  · have e : b + ((k + 1 : Nat) : Int) = b + (k : Int) + 1 := by omega
    rw [e, ← tE_go (P := fun q => tal (ctx σ0 q)) hlt (tal_iff.mpr (by omega))]
    exact h9
/-- a digit more -/
theorem crn_d {σ0 σ2 : vS} {b lt dg num num2 c : Int} {k : Nat} (h : crn σ0 b k lt dg num σ) (hN : σ0 7 1 ≤ 940) (hlt : b + (k : Int) < σ0 7 1) (hc : c = ctx σ0 (b + (k : Int))) (hc2 : 48 ≤ c ∧ c ≤ 57) (hr : cfr σ0 σ2) (e5 : σ2 7 5 = σ 7 5) (e10 : σ2 7 10 = σ 7 10 + 1) (hn : -2147483648 ≤ num2 ∧ num2 ≤ 2147483647) (en : (0 ≤ num ∧ num ≤ 99) → num2 = num * 10 + (c - 48)) : crn σ0 b (k + 1) lt (dg + 1) num2 σ2 := by
  obtain ⟨h1, h2, h3, h4, h5, h6, h7, h8, h9, h10, h11⟩ := h
  rw [hc] at hc2 en
  refine ⟨hr, by rw [e5, h2], by rw [e10, h3]; omega, by omega, ?_, ?_, fun q => by omega, fun q1 q2 => ?_, ?_, hn, by omega⟩
  · unfold tls
    rw [tl_more]
    exact ⟨fun q => by omega, fun q => by omega⟩
  · unfold tds
    rw [tl_more]
    exact ⟨fun q => ⟨h6.mp q, hc2⟩, fun q => h6.mpr q.1⟩
  · have e := h8 q1 (by omega)
    have t0 := h6.mp q1
    have hb : 0 ≤ tn (ctx σ0) b k ∧ tn (ctx σ0) b k ≤ 99 := by
      match k, q2, t0 with
      | 0, _, _ => exact ⟨Int.le_refl _, by show (0 : Int) ≤ 99; decide⟩
      | 1, _, t0 =>
        have := t0 0 (by decide)
        show 0 ≤ 10 * 0 + ctx σ0 (b + ((0 : Nat) : Int)) - 48 ∧ 10 * 0 + ctx σ0 (b + ((0 : Nat) : Int)) - 48 ≤ 99
        omega
      | n + 2, q2, _ => omega
    rw [en (by rw [e]; exact hb), e]
    show _ = 10 * tn (ctx σ0) b k + ctx σ0 (b + (k : Int)) - 48
    omega
  · have e : b + ((k + 1 : Nat) : Int) = b + (k : Int) + 1 := by omega
    rw [e, ← tE_go (P := fun q => tal (ctx σ0 q)) hlt (tal_iff.mpr (by omega))]
    exact h9
theorem vmulw_s {x : Int} (h : 0 ≤ x ∧ x ≤ 1000) : vmulw x 10 = x * 10 := by
  unfold vmulw
  have e1 : (Int32.ofInt x).toInt = x := Int32.toInt_ofInt_of_le (by omega) (by omega)
  have e2 : (Int32.ofInt 10).toInt = 10 := rfl
  rw [i_mul (x := Int32.ofInt x) (y := Int32.ofInt 10) (by rw [e1, e2]; show -2147483648 ≤ x * 10; omega) (by rw [e1, e2]; show x * 10 ≤ 2147483647; omega), e1, e2]
theorem vadd_s {x y : Int} (h : (0 ≤ x ∧ x ≤ 100000) ∧ (-1000 ≤ y ∧ y ≤ 1000)) : vadd x y = x + y := by
  unfold vadd
  have e1 : (Int32.ofInt x).toInt = x := Int32.toInt_ofInt_of_le (by omega) (by omega)
  have e2 : (Int32.ofInt y).toInt = y := Int32.toInt_ofInt_of_le (by omega) (by omega)
  rw [i_add (x := Int32.ofInt x) (y := Int32.ofInt y) (by rw [e1, e2]; show -2147483648 ≤ x + y; omega) (by rw [e1, e2]; show x + y ≤ 2147483647; omega), e1, e2]
theorem ck_run (X : zX gKX E) (B : zB E) {σ0 : vS} {b : Int} (h8x : ∀ q : Int, 0 ≤ ctx σ0 q ∧ ctx σ0 q ≤ 255) (hb0 : 0 ≤ b) (hK : ∀ (k : Nat) (σ2 : vS), cfr σ0 σ2 → σ2 7 5 = b → σ2 7 10 = b + (k : Int) → b + (k : Int) = tE (fun q => tal (ctx σ0 q)) (σ0 7 1) b → ctr (ctx σ0) (σ0 35) b k (σ2 7 4) (σ2 7 6) (σ2 7 7) → K none σ2) : ∀ (m : Nat) (k : Nat) (lt dg num : Int) (σ : vS), 940 - (b + (k : Int)) < (m : Int) → crn σ0 b k lt dg num σ → zGC E md72 w gm_72 11 [(0, .inr (.inl 7)), (1, .inl lt), (2, .inl dg), (3, .inl num)] σ K := by
  intro m
  induction m with
  | zero =>
    intro k lt dg num σ hm hI
    have h11 := hI.2.2.2.2.2.2.2.2.2.2
    omega
  | succ m ih =>
    intro k lt dg num σ hm hI
    refine zbdC (fun hb => ?_)
    obtain ⟨h1, h2, h3, h4, h5, h6, h7, h8, h9, h10, h11⟩ := id hI
    have f10 : (-2147483648) ≤ σ 7 10 ∧ σ 7 10 ≤ 2147483647 := zfC hb (t := 7) (f := 10) (by decide +kernel)
    have f1 : 0 ≤ σ 7 1 ∧ σ 7 1 ≤ 940 := zfC hb (t := 7) (f := 1) (by decide +kernel)
    have e1 : σ 7 1 = σ0 7 1 := h1.2 1 (by decide) (by decide) (by decide) (by decide) (by decide)
    have g1 := cgo_iff (c := cba σ (σ 7 10))
    have hq := cba_of h1 (i := σ 7 10)
    rw [h3] at hq
    have hcb : cba σ (σ 7 10) = cba σ (b + (k : Int)) := by rw [h3]
    have hin : b + (k : Int) < σ0 7 1 → (0 ≤ b + (k : Int) ∧ b + (k : Int) < σ0 7 1) ∧ cba σ (b + (k : Int)) = ctx σ0 (b + (k : Int)) := fun q => ⟨⟨by omega, q⟩, by rw [if_pos ⟨by omega, q⟩] at hq; exact hq⟩
    have hb8 := h8x (b + (k : Int))
    have hc8 : 0 ≤ cba σ (σ 7 10) ∧ cba σ (σ 7 10) ≤ 255 := by
      rw [hcb, hq]
      by_cases q : 0 ≤ b + (k : Int) ∧ b + (k : Int) < σ0 7 1
      · rw [if_pos q]; exact hb8
      · rw [if_neg q]; omega
    have hend0 : (σ 7 1 ≤ σ 7 10 ∨ cgo (cba σ (σ 7 10)) = 0) → b + (k : Int) = tE (fun q => tal (ctx σ0 q)) (σ0 7 1) b := fun q => by
      rw [← h9]
      refine (tE_stop (P := fun q => tal (ctx σ0 q)) (fun q2 => ?_)).symm
      have q3 := tal_iff.mp q2.2
      have q4 := (hin q2.1).2
      rcases q with q | q
      · omega
      · have q5 := g1.mp q
        rw [hcb, q4] at q5
        exact q5 q3
    refine zgoC X B (cS_ok X B) [78, 84] [(11, [0, 1, 2, 3])] (fun m => Nat.beq m.2.2.2.2.2.2.length 89) (by decide +kernel) ?_
    have f1 : (-2147483648) ≤ σ 7 10 ∧ σ 7 10 ≤ 2147483647 := zfC hb (t := 7) (f := 10) (by decide +kernel)
    have f2 : 0 ≤ σ 7 1 ∧ σ 7 1 ≤ 940 := zfC hb (t := 7) (f := 1) (by decide +kernel)
    refine And.intro (fun (c3 : (σ 7 1) ≤ (σ 7 10)) => ?_) (fun (c4 : (σ 7 10) < (σ 7 1)) => ?_)
    · refine And.intro (fun (c5 : ¬ dg = 0) => ?_) (fun (c6 : dg = 0) => ?_)
      · refine And.intro (fun (c7 : ¬ lt = 0) => ?_) (fun (c8 : lt = 0) => ?_)
        · refine And.intro (show 0 ≤ 1 ∧ 1 ≤ 5 from by omega) ?_
          show K none (vup σ 7 4 1)
          have hend := hend0 (by omega)
          refine hK k _ (cfr_up (h1) (by decide)) h2 h3 hend ?_
          exact Or.inr (Or.inr ⟨fun q => by have := h5.mpr q.1; omega, fun q => by have := h6.mpr q.1; omega, rfl⟩)
        · refine And.intro (fun (c9 : 2 < dg) => ?_) (fun (c10 : dg ≤ 2) => ?_)
          · refine And.intro (show 0 ≤ 1 ∧ 1 ≤ 5 from by omega) ?_
            show K none (vup σ 7 4 1)
            have hend := hend0 (by omega)
            refine hK k _ (cfr_up (h1) (by decide)) h2 h3 hend ?_
            exact Or.inr (Or.inr ⟨fun q => by have := h5.mpr q.1; omega, fun q => by have := h6.mpr q.1; omega, rfl⟩)
          · refine And.intro (show Int.negSucc 2147483647 ≤ num ∧ num ≤ 2147483647 from rgm (by omega)) ?_
            refine And.intro (show 0 ≤ 4 ∧ 4 ≤ 5 from by omega) ?_
            show K none (vup (vup σ 7 6 num) 7 4 4)
            have hend := hend0 (by omega)
            refine hK k _ (cfr_up (cfr_up (h1) (by decide)) (by decide)) h2 h3 hend ?_
            exact Or.inr (Or.inl ⟨h6.mp (by omega), by omega, rfl, h8 (by omega) (by omega)⟩)
      · refine And.intro (fun (c11 : 7 < lt) => ?_) (fun (c12 : lt ≤ 7) => ?_)
        · refine And.intro (fun (c13 : ¬ lt = 0) => ?_) (fun (c14 : lt = 0) => ?_)
          · refine And.intro (show 0 ≤ 1 ∧ 1 ≤ 5 from by omega) ?_
            show K none (vup σ 7 4 1)
            have hend := hend0 (by omega)
            refine hK k _ (cfr_up (h1) (by decide)) h2 h3 hend ?_
            exact Or.inr (Or.inr ⟨fun q => by have := h5.mpr q.1; omega, fun q => by have := h6.mpr q.1; omega, rfl⟩)
          · refine And.intro (fun (c15 : 2 < dg) => ?_) (fun (c16 : dg ≤ 2) => ?_)
            · refine And.intro (show 0 ≤ 1 ∧ 1 ≤ 5 from by omega) ?_
              show K none (vup σ 7 4 1)
              have hend := hend0 (by omega)
              refine hK k _ (cfr_up (h1) (by decide)) h2 h3 hend ?_
              exact Or.inr (Or.inr ⟨fun q => by have := h5.mpr q.1; omega, fun q => by have := h6.mpr q.1; omega, rfl⟩)
            · refine And.intro (show Int.negSucc 2147483647 ≤ num ∧ num ≤ 2147483647 from rgm (by omega)) ?_
              refine And.intro (show 0 ≤ 4 ∧ 4 ≤ 5 from by omega) ?_
              show K none (vup (vup σ 7 6 num) 7 4 4)
              have hend := hend0 (by omega)
              refine hK k _ (cfr_up (cfr_up (h1) (by decide)) (by decide)) h2 h3 hend ?_
              exact Or.inr (Or.inl ⟨h6.mp (by omega), by omega, rfl, h8 (by omega) (by omega)⟩)
        · refine fun (r17 : Int) (h18 : ckw (σ 35) (σ 7 7) r17) => ?_
          have bh18 := ckw_b h18
          refine And.intro (show Int.negSucc 2147483647 ≤ r17 ∧ r17 ≤ 2147483647 from rgm (by omega)) ?_
          refine And.intro (fun (c19 : ¬ r17 = (-1)) => ?_) (fun (c20 : r17 = (-1)) => ?_)
          · refine And.intro (show 0 ≤ 2 ∧ 2 ≤ 5 from by omega) ?_
            show K none (vup (vup σ 7 6 r17) 7 4 2)
            have hend := hend0 (by omega)
            refine hK k _ (cfr_up (cfr_up (h1) (by decide)) (by decide)) h2 h3 hend ?_
            exact Or.inl ⟨h5.mp (by omega), by omega, h7 (by omega) (by omega), (by rw [← h1.1 35 (by decide)]; exact h18), Or.inr ⟨(show ¬ r17 = -1 by omega), rfl⟩⟩
          · refine And.intro (show 0 ≤ 3 ∧ 3 ≤ 5 from by omega) ?_
            show K none (vup (vup σ 7 6 r17) 7 4 3)
            have hend := hend0 (by omega)
            refine hK k _ (cfr_up (cfr_up (h1) (by decide)) (by decide)) h2 h3 hend ?_
            exact Or.inl ⟨h5.mp (by omega), by omega, h7 (by omega) (by omega), (by rw [← h1.1 35 (by decide)]; exact h18), Or.inl ⟨(show r17 = -1 by omega), rfl⟩⟩
    · refine And.intro (fun (c21 : (cgo (cba σ (σ 7 10))) = 0) => ?_) (fun (c22 : ¬ (cgo (cba σ (σ 7 10))) = 0) => ?_)
      · refine And.intro (fun (c23 : ¬ dg = 0) => ?_) (fun (c24 : dg = 0) => ?_)
        · refine And.intro (fun (c25 : ¬ lt = 0) => ?_) (fun (c26 : lt = 0) => ?_)
          · refine And.intro (show 0 ≤ 1 ∧ 1 ≤ 5 from by omega) ?_
            show K none (vup σ 7 4 1)
            have hend := hend0 (by omega)
            refine hK k _ (cfr_up (h1) (by decide)) h2 h3 hend ?_
            exact Or.inr (Or.inr ⟨fun q => by have := h5.mpr q.1; omega, fun q => by have := h6.mpr q.1; omega, rfl⟩)
          · refine And.intro (fun (c27 : 2 < dg) => ?_) (fun (c28 : dg ≤ 2) => ?_)
            · refine And.intro (show 0 ≤ 1 ∧ 1 ≤ 5 from by omega) ?_
              show K none (vup σ 7 4 1)
              have hend := hend0 (by omega)
              refine hK k _ (cfr_up (h1) (by decide)) h2 h3 hend ?_
              exact Or.inr (Or.inr ⟨fun q => by have := h5.mpr q.1; omega, fun q => by have := h6.mpr q.1; omega, rfl⟩)
            · refine And.intro (show Int.negSucc 2147483647 ≤ num ∧ num ≤ 2147483647 from rgm (by omega)) ?_
              refine And.intro (show 0 ≤ 4 ∧ 4 ≤ 5 from by omega) ?_
              show K none (vup (vup σ 7 6 num) 7 4 4)
              have hend := hend0 (by omega)
              refine hK k _ (cfr_up (cfr_up (h1) (by decide)) (by decide)) h2 h3 hend ?_
              exact Or.inr (Or.inl ⟨h6.mp (by omega), by omega, rfl, h8 (by omega) (by omega)⟩)
        · refine And.intro (fun (c29 : 7 < lt) => ?_) (fun (c30 : lt ≤ 7) => ?_)
          · refine And.intro (fun (c31 : ¬ lt = 0) => ?_) (fun (c32 : lt = 0) => ?_)
            · refine And.intro (show 0 ≤ 1 ∧ 1 ≤ 5 from by omega) ?_
              show K none (vup σ 7 4 1)
              have hend := hend0 (by omega)
              refine hK k _ (cfr_up (h1) (by decide)) h2 h3 hend ?_
              exact Or.inr (Or.inr ⟨fun q => by have := h5.mpr q.1; omega, fun q => by have := h6.mpr q.1; omega, rfl⟩)
            · refine And.intro (fun (c33 : 2 < dg) => ?_) (fun (c34 : dg ≤ 2) => ?_)
              · refine And.intro (show 0 ≤ 1 ∧ 1 ≤ 5 from by omega) ?_
                show K none (vup σ 7 4 1)
                have hend := hend0 (by omega)
                refine hK k _ (cfr_up (h1) (by decide)) h2 h3 hend ?_
                exact Or.inr (Or.inr ⟨fun q => by have := h5.mpr q.1; omega, fun q => by have := h6.mpr q.1; omega, rfl⟩)
              · refine And.intro (show Int.negSucc 2147483647 ≤ num ∧ num ≤ 2147483647 from rgm (by omega)) ?_
                refine And.intro (show 0 ≤ 4 ∧ 4 ≤ 5 from by omega) ?_
                show K none (vup (vup σ 7 6 num) 7 4 4)
                have hend := hend0 (by omega)
                refine hK k _ (cfr_up (cfr_up (h1) (by decide)) (by decide)) h2 h3 hend ?_
                exact Or.inr (Or.inl ⟨h6.mp (by omega), by omega, rfl, h8 (by omega) (by omega)⟩)
          · refine fun (r35 : Int) (h36 : ckw (σ 35) (σ 7 7) r35) => ?_
            have bh36 := ckw_b h36
            refine And.intro (show Int.negSucc 2147483647 ≤ r35 ∧ r35 ≤ 2147483647 from rgm (by omega)) ?_
            refine And.intro (fun (c37 : ¬ r35 = (-1)) => ?_) (fun (c38 : r35 = (-1)) => ?_)
            · refine And.intro (show 0 ≤ 2 ∧ 2 ≤ 5 from by omega) ?_
              show K none (vup (vup σ 7 6 r35) 7 4 2)
              have hend := hend0 (by omega)
              refine hK k _ (cfr_up (cfr_up (h1) (by decide)) (by decide)) h2 h3 hend ?_
              exact Or.inl ⟨h5.mp (by omega), by omega, h7 (by omega) (by omega), (by rw [← h1.1 35 (by decide)]; exact h36), Or.inr ⟨(show ¬ r35 = -1 by omega), rfl⟩⟩
            · refine And.intro (show 0 ≤ 3 ∧ 3 ≤ 5 from by omega) ?_
              show K none (vup (vup σ 7 6 r35) 7 4 3)
              have hend := hend0 (by omega)
              refine hK k _ (cfr_up (cfr_up (h1) (by decide)) (by decide)) h2 h3 hend ?_
              exact Or.inl ⟨h5.mp (by omega), by omega, h7 (by omega) (by omega), (by rw [← h1.1 35 (by decide)]; exact h36), Or.inl ⟨(show r35 = -1 by omega), rfl⟩⟩
      · refine And.intro (fun (c39 : (cba σ (σ 7 10)) < 97) => ?_) (fun (c40 : 97 ≤ (cba σ (σ 7 10))) => ?_)
        · refine And.intro (show -2147483648 ≤ (dg + 1) ∧ (dg + 1) ≤ 2147483647 from by omega) ?_
          refine fun (z41 : Int) (h42 : -2147483648 ≤ z41 ∧ z41 ≤ 2147483647) (e43 : z41 = vmulw num 10) => ?_
          refine And.intro (show -2147483648 ≤ ((cba σ (σ 7 10)) - 48) ∧ ((cba σ (σ 7 10)) - 48) ≤ 2147483647 from by omega) ?_
          refine fun (z44 : Int) (h45 : -2147483648 ≤ z44 ∧ z44 ≤ 2147483647) (e46 : z44 = vadd z41 ((cba σ (σ 7 10)) - 48)) => ?_
          refine And.intro (show -2147483648 ≤ ((σ 7 10) + 1) ∧ ((σ 7 10) + 1) ≤ 2147483647 from by omega) ?_
          refine And.intro (show Int.negSucc 2147483647 ≤ ((σ 7 10) + 1) ∧ ((σ 7 10) + 1) ≤ 2147483647 from rgm (by omega)) ?_
          show zGC E md72 w gm_72 11 [(0, .inr (.inl 7)), (1, .inl lt), (2, .inl (dg + 1)), (3, .inl z44)] (vup σ 7 10 ((σ 7 10) + 1)) K
          exact ih (k + 1) lt (dg + 1) z44 _ (by omega) (crn_d (c := cba σ (σ 7 10)) hI (by omega) (by omega) (by rw [hcb]; exact (hin (by omega)).2) (by omega) (cfr_up (h1) (by decide)) rfl rfl (by omega) (fun q => by rw [e46, e43, vmulw_s (by omega), vadd_s (by omega)]))
        · refine And.intro (show -2147483648 ≤ (lt + 1) ∧ (lt + 1) ≤ 2147483647 from by omega) ?_
          refine And.intro (show 97 ≤ (cba σ (σ 7 10)) ∧ (cba σ (σ 7 10)) ≤ 122 from by omega) (fun (z47 : Int) (h48 : (0 ≤ (σ 7 7) ∧ (σ 7 7) < 10460353203) → z47 = (σ 7 7) * 27 + ((cba σ (σ 7 10)) - 96)) => ?_)
          refine And.intro (show -2147483648 ≤ ((σ 7 10) + 1) ∧ ((σ 7 10) + 1) ≤ 2147483647 from by omega) ?_
          refine And.intro (show Int.negSucc 2147483647 ≤ ((σ 7 10) + 1) ∧ ((σ 7 10) + 1) ≤ 2147483647 from rgm (by omega)) ?_
          show zGC E md72 w gm_72 11 [(0, .inr (.inl 7)), (1, .inl (lt + 1)), (2, .inl dg), (3, .inl num)] (vup (vup σ 7 7 z47) 7 10 ((σ 7 10) + 1)) K
          exact ih (k + 1) (lt + 1) dg num _ (by omega) (crn_l (c := cba σ (σ 7 10)) hI (by omega) (by omega) (by rw [hcb]; exact (hin (by omega)).2) (by omega) (cfr_up (cfr_up (h1) (by decide)) (by decide)) rfl rfl (fun q => h48 q))
end ZC3
