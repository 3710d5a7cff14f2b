/-! THE REFERENCE'S IMAGES, AND count, EXACTLY (with the names) -/
noncomputable section
def md195 : aMd := gc_195_0.2.2.2
end
section ZV1
variable {E : zE} {w : va_W} {σ : vS} {K : vKL}
theorem zL_bd (B : zB E) (hb : vBdL (zso E) gST zuq σ) {t n : Nat} (hu : zuq t = true) (hs : ∃ rg u, gST t = some (.inr (0, n, rg, u)) ∧ zrg t = rg) {j : Nat} (hj : j < n) : ∃ q, rgAt (zrg t) j = some q ∧ q.1 ≤ σ t (j : Int) ∧ σ t (j : Int) ≤ q.2 := by
  obtain ⟨rg, u, h1, h2⟩ := hs
  rw [h2]
  exact (hb t hu (B.2.2.2.2.2.2.2 t hu)).2 _ h1 (by show 0 < 3; decide) j hj
theorem zL_im (B : zB E) (hb : vBdL (zso E) gST zuq σ) {k i : Int} (hk : 0 ≤ k ∧ k ≤ 1) (h0 : 0 ≤ i) (h1 : i < 402) : ∀ q : Int × Int, rgAt (zrg 74) ((402 * k) + i).toNat = some q → q.1 ≤ σ 52 i ∧ σ 52 i ≤ q.2 := by
  intro q hq
  obtain ⟨q2, g1, g2⟩ := zL_bd B hb (t := 52) (n := 402) rfl ⟨_, _, rfl, rfl⟩ (j := i.toNat) (by omega)
  have hr := List.all_eq_true.mp z_rg i.toNat (List.mem_range.mpr (by omega))
  rw [Bool.and_eq_true, decide_eq_true_eq, decide_eq_true_eq] at hr
  have e : ((i.toNat : Nat) : Int) = i := by omega
  rw [e] at g2
  rcases (show k = 0 ∨ k = 1 by omega) with rfl | rfl
  · rw [show ((402 * 0) + i : Int).toNat = i.toNat by omega, ← hr.1, g1] at hq
    cases hq
    exact g2
  · rw [show ((402 * 1) + i : Int).toNat = 402 + i.toNat by omega, ← hr.2, g1] at hq
    cases hq
    exact g2
theorem zL_re (B : zB E) (hb : vBdL (zso E) gST zuq σ) {k i : Int} (hk : 0 ≤ k ∧ k ≤ 1) (h0 : 0 ≤ i) (h1 : i < 402) : ∀ q : Int × Int, rgAt (zrg 52) i.toNat = some q → q.1 ≤ σ 74 ((402 * k) + i) ∧ σ 74 ((402 * k) + i) ≤ q.2 := by
  intro q hq
  obtain ⟨q2, g1, g2⟩ := zL_bd B hb (t := 74) (n := 804) rfl ⟨_, _, rfl, rfl⟩ (j := ((402 * k) + i).toNat) (by omega)
  have hr := List.all_eq_true.mp z_rg i.toNat (List.mem_range.mpr (by omega))
  rw [Bool.and_eq_true, decide_eq_true_eq, decide_eq_true_eq] at hr
  have e : ((((402 * k) + i).toNat : Nat) : Int) = (402 * k) + i := by omega
  rw [e] at g2
  rcases (show k = 0 ∨ k = 1 by omega) with rfl | rfl
  · rw [show ((402 * 0) + i : Int).toNat = i.toNat by omega, ← hr.1, hq] at g1
    cases g1
    exact g2
  · rw [show ((402 * 1) + i : Int).toNat = 402 + i.toNat by omega, ← hr.2, hq] at g1
    cases g1
    exact g2
set_option maxRecDepth 8192 in
theorem w217_2 (X : zX gKX E) (B : zB E) {σ0 : vS} {k : Int} (hk : 0 ≤ k ∧ k ≤ 1) (hK : (∀ σ2 : vS, zfr [12, 74, 75, 76] σ0 σ2 → (∀ x : Int, ¬ (402 * k ≤ x ∧ x < 402 * k + 402) → σ2 74 x = σ0 74 x) → (∀ j : Int, 0 ≤ j → j < 402 → σ2 74 (402 * k + j) = σ0 52 j) → (∀ x : Int, ¬ (24 * k ≤ x ∧ x < 24 * k + 24) → σ2 75 x = σ0 75 x) → (∀ j : Int, 0 ≤ j → j < 24 → σ2 75 (24 * k + j) = σ0 55 j) → (∀ x : Int, σ2 76 x = if x = k then 1 else σ0 76 x) → K (some (.inl 1)) σ2)) : ∀ (m : Nat) (i : Int) (σ : vS), 24 - i < (m : Int) → 0 ≤ i → i ≤ 24 → zfr [12, 74, 75, 76] σ0 σ → (∀ x : Int, ¬ (402 * k ≤ x ∧ x < 402 * k + 402) → σ 74 x = σ0 74 x) → (∀ j : Int, 0 ≤ j → j < 402 → σ 74 (402 * k + j) = σ0 52 j) → σ 76 = σ0 76 → (∀ x : Int, ¬ (24 * k ≤ x ∧ x < 24 * k + 24) → σ 75 x = σ0 75 x) → (∀ j : Int, 0 ≤ j → j < i → σ 75 (24 * k + j) = σ0 55 j) → zGL E gJ1 md217 w gm_217 51 [(0, .inr (.inl 12)), (1, .inl k), (2, .inl i)] σ K := by
  intro m
  induction m with
  | zero => intro i σ h; omega
  | succ m ih =>
    intro i σ hm i0 i1 hf hA hC h76 hA2 hC2
    refine zbdL (fun hb => zgoL X B zS_nilL [] [(18, [0, 1, 2]), (51, [0, 1, 2])] (fun m => Nat.beq m.2.2.2.2.2.2.length 55) (by decide +kernel) ?_)
    refine And.intro (fun (c1 : 24 ≤ i) => ?_) (fun (c2 : i < 24) => ?_)
    · refine Or.inl ?_
      refine And.intro (show 0 ≤ k ∧ k < 2 from by omega) ?_
      refine And.intro (show 0 ≤ 1 ∧ 1 ≤ 1 from by omega) ?_
      refine And.intro (show 0 ≤ 1 ∧ 1 ≤ 1 from by omega) ?_
      refine And.intro (show 0 ≤ 1 ∧ 1 ≤ 1 from by omega) ?_
      show K (some (.inl 1)) (vup σ 76 k 1)
      exact hK _ (zfr_up hf (by decide)) hA hC hA2 (fun j j0 j1 => hC2 j j0 (by omega)) (fun x => by rw [vup_f, h76]; rfl)
    · refine And.intro (show -2147483648 ≤ (24 * k) ∧ (24 * k) ≤ 2147483647 from by omega) ?_
      refine And.intro (show -2147483648 ≤ ((24 * k) + i) ∧ ((24 * k) + i) ≤ 2147483647 from by omega) ?_
      refine And.intro (show 0 ≤ i ∧ i < 48 from by omega) ?_
      refine And.intro (show 0 ≤ ((24 * k) + i) ∧ ((24 * k) + i) < 48 from by omega) ?_
      refine And.intro (show -2147483648 ≤ (i + 1) ∧ (i + 1) ≤ 2147483647 from by omega) ?_
      show zGL E gJ1 md217 w gm_217 51 [(0, .inr (.inl 12)), (1, .inl k), (2, .inl (i + 1))] (vup σ 75 ((24 * k) + i) (σ 55 i)) K
      refine ih (i + 1) _ (by omega) (by omega) (by omega) (zfr_up hf (by decide)) hA hC h76 (fun x hx => ?_) (fun j j0 j1 => ?_)
      · rw [vup_f, ful_ne (by omega)]
        exact hA2 x hx
      · rw [vup_f]
        by_cases hj : j = i
        · subst hj
          rw [ful_at, hf 55 (by decide)]
        · rw [ful_ne (by omega)]
          exact hC2 j j0 (by omega)
set_option maxRecDepth 8192 in
theorem w217_1 (X : zX gKX E) (B : zB E) {σ0 : vS} {k : Int} (hk : 0 ≤ k ∧ k ≤ 1) (hK : (∀ σ2 : vS, zfr [12, 74, 75, 76] σ0 σ2 → (∀ x : Int, ¬ (402 * k ≤ x ∧ x < 402 * k + 402) → σ2 74 x = σ0 74 x) → (∀ j : Int, 0 ≤ j → j < 402 → σ2 74 (402 * k + j) = σ0 52 j) → (∀ x : Int, ¬ (24 * k ≤ x ∧ x < 24 * k + 24) → σ2 75 x = σ0 75 x) → (∀ j : Int, 0 ≤ j → j < 24 → σ2 75 (24 * k + j) = σ0 55 j) → (∀ x : Int, σ2 76 x = if x = k then 1 else σ0 76 x) → K (some (.inl 1)) σ2)) : ∀ (m : Nat) (i : Int) (σ : vS), 402 - i < (m : Int) → 0 ≤ i → i ≤ 402 → zfr [12, 74, 75, 76] σ0 σ → (∀ x : Int, ¬ (402 * k ≤ x ∧ x < 402 * k + 402) → σ 74 x = σ0 74 x) → (∀ j : Int, 0 ≤ j → j < i → σ 74 (402 * k + j) = σ0 52 j) → σ 76 = σ0 76 → σ 75 = σ0 75 → zGL E gJ1 md217 w gm_217 18 [(0, .inr (.inl 12)), (1, .inl k), (2, .inl i)] σ K := by
  intro m
  induction m with
  | zero => intro i σ h; omega
  | succ m ih =>
    intro i σ hm i0 i1 hf hA hC h76 h75
    refine zbdL (fun hb => zgoL X B zS_nilL [] [(18, [0, 1, 2]), (51, [0, 1, 2])] (fun m => Nat.beq m.2.2.2.2.2.2.length 55) (by decide +kernel) ?_)
    refine And.intro (fun (c1 : 402 ≤ i) => ?_) (fun (c2 : i < 402) => ?_)
    · show zGL E gJ1 md217 w gm_217 51 [(0, .inr (.inl 12)), (1, .inl k), (2, .inl 0)] σ K
      exact w217_2 X B hk hK 25 0 _ (by omega) (by omega) (by omega) hf hA (fun j j0 j1 => hC j j0 (by omega)) h76 (fun x _ => by rw [h75]) (fun j j0 j1 => by omega)
    · refine And.intro (show -2147483648 ≤ (402 * k) ∧ (402 * k) ≤ 2147483647 from by omega) ?_
      refine And.intro (show -2147483648 ≤ ((402 * k) + i) ∧ ((402 * k) + i) ≤ 2147483647 from by omega) ?_
      refine And.intro (show 0 ≤ i ∧ i < 402 from by omega) ?_
      refine And.intro (show 0 ≤ ((402 * k) + i) ∧ ((402 * k) + i) < 804 from by omega) ?_
      refine And.intro (show vRg (zrg 74) ((402 * k) + i) (σ 52 i) from zL_im B hb hk i0 (by omega)) ?_
      refine And.intro (show -2147483648 ≤ (i + 1) ∧ (i + 1) ≤ 2147483647 from by omega) ?_
      show zGL E gJ1 md217 w gm_217 18 [(0, .inr (.inl 12)), (1, .inl k), (2, .inl (i + 1))] (vup σ 74 ((402 * k) + i) (σ 52 i)) K
      refine ih (i + 1) _ (by omega) (by omega) (by omega) (zfr_up hf (by decide)) (fun x hx => ?_) (fun j j0 j1 => ?_) ((vup_fr (by decide)).trans h76) ((vup_fr (by decide)).trans h75)
      · rw [vup_f, ful_ne (by omega)]
        exact hA x hx
      · rw [vup_f]
        by_cases hj : j = i
        · subst hj
          rw [ful_at, hf 52 (by decide)]
        · rw [ful_ne (by omega)]
          exact hC j j0 (by omega)
set_option maxRecDepth 8192 in
theorem w217_0 (X : zX gKX E) (B : zB E) {k : Int} (hr : -2147483648 ≤ k ∧ k ≤ 2147483647) (h1 : (0 ≤ k ∧ k ≤ 1) → (∀ σ2 : vS, zfr [12, 74, 75, 76] σ σ2 → (∀ x : Int, ¬ (402 * k ≤ x ∧ x < 402 * k + 402) → σ2 74 x = σ 74 x) → (∀ j : Int, 0 ≤ j → j < 402 → σ2 74 (402 * k + j) = σ 52 j) → (∀ x : Int, ¬ (24 * k ≤ x ∧ x < 24 * k + 24) → σ2 75 x = σ 75 x) → (∀ j : Int, 0 ≤ j → j < 24 → σ2 75 (24 * k + j) = σ 55 j) → (∀ x : Int, σ2 76 x = if x = k then 1 else σ 76 x) → K (some (.inl 1)) σ2)) (h2 : (k < 0 ∨ 1 < k) → ∀ σ2 : vS, zfr [12] σ σ2 → K (some (.inl 0)) σ2) : zGL E gJ1 md217 w gm_217 0 [(0, .inr (.inl 12)), (1, .inl k)] σ K := by
  refine zbdL (fun hb => zgoL X B zS_nilL [] [(18, [0, 1, 2]), (51, [0, 1, 2])] (fun m => Nat.beq m.2.2.2.2.2.2.length 55) (by decide +kernel) ?_)
  refine And.intro (show Int.negSucc 2147483647 ≤ 0 ∧ 0 ≤ 2147483647 from rgm (by omega)) ?_
  refine And.intro (fun (c1 : k < 0) => ?_) (fun (c2 : 0 ≤ k) => ?_)
  · refine And.intro (show 0 ≤ 0 ∧ 0 ≤ 1 from by omega) ?_
    refine And.intro (fun (q : ¬ 0 = 0) => absurd q (by decide)) (fun _ => ?_)
    refine And.intro (show 0 ≤ 0 ∧ 0 ≤ 1 from by omega) ?_
    show K (some (.inl 0)) (vup σ 12 0 0)
    exact h2 (by omega) _ (zfr_up zfr_refl (by decide))
  · refine And.intro (fun (c3 : 1 < k) => ?_) (fun (c4 : k ≤ 1) => ?_)
    · refine And.intro (show 0 ≤ 0 ∧ 0 ≤ 1 from by omega) ?_
      refine And.intro (fun (q : ¬ 0 = 0) => absurd q (by decide)) (fun _ => ?_)
      refine And.intro (show 0 ≤ 0 ∧ 0 ≤ 1 from by omega) ?_
      show K (some (.inl 0)) (vup σ 12 0 0)
      exact h2 (by omega) _ (zfr_up zfr_refl (by decide))
    · refine And.intro (show 0 ≤ 1 ∧ 1 ≤ 1 from by omega) ?_
      refine And.intro (fun _ => ?_) (fun (q : 1 = 0) => absurd q (by decide))
      show zGL E gJ1 md217 w gm_217 18 [(0, .inr (.inl 12)), (1, .inl k), (2, .inl 0)] (vup σ 12 0 0) K
      exact w217_1 X B (by omega) (h1 (by omega)) 403 0 _ (by omega) (by omega) (by omega) (zfr_up zfr_refl (by decide)) (fun _ _ => rfl) (fun j j0 j1 => by omega) rfl rfl
theorem w217_x (B : zB E) (hb : vBdL (zso E) gST zuq σ) {k : Int} (hk : 0 ≤ k ∧ k ≤ 1) (hX : vX σ) {σ2 : vS} (hf : zfr [12, 74, 75, 76] σ σ2) (hA : ∀ x : Int, ¬ (402 * k ≤ x ∧ x < 402 * k + 402) → σ2 74 x = σ 74 x) (hC : ∀ j : Int, 0 ≤ j → j < 402 → σ2 74 (402 * k + j) = σ 52 j) : vX σ2 := by
  have f1 : 0 ≤ σ 52 221 ∧ σ 52 221 ≤ 53 := zbL B hb (t := 52) (a := 221) (n := 222) (i := 221) (by decide +kernel) (by omega) (by omega)
  have f2 : 0 ≤ σ 74 221 ∧ σ 74 221 ≤ 53 := zbL B hb (t := 74) (a := 221) (n := 222) (i := 221) (by decide +kernel) (by omega) (by omega)
  have f3 : 0 ≤ σ 74 623 ∧ σ 74 623 ≤ 53 := zbL B hb (t := 74) (a := 623) (n := 624) (i := 623) (by decide +kernel) (by omega) (by omega)
  obtain ⟨x1, x2, x3⟩ := hX

  refine ⟨by rw [hf 52 (by decide)]; exact x1, ?_, ?_⟩
  · by_cases h0 : k = 0
    · subst h0
      refine xVPz_cp (g := σ 52) (a := 221) (fun j j0 j1 => ?_) (by omega) x1
      have := hC (221 + j) (by omega) (by omega)
      rw [← this]
      congr 1
      omega
    · exact xVPz_cp (g := σ 74) (a := 221) (fun j j0 j1 => hA _ (by omega)) (by omega) x2
  · by_cases h0 : k = 1
    · subst h0
      refine xVPz_cp (g := σ 52) (a := 221) (fun j j0 j1 => ?_) (by omega) x1
      have := hC (221 + j) (by omega) (by omega)
      rw [← this]
      congr 1
      omega
    · exact xVPz_cp (g := σ 74) (a := 623) (fun j j0 j1 => hA _ (by omega)) (by omega) x3
set_option maxRecDepth 8192 in
theorem w261_2 (X : zX gKX E) (B : zB E) {σ0 : vS} {k : Int} (hk : 0 ≤ k ∧ k ≤ 1) (hK : (∀ σ2 : vS, zfr [12, 52, 55] σ0 σ2 → (∀ j : Int, 0 ≤ j → j < 402 → σ2 52 j = σ0 74 (402 * k + j)) → (∀ j : Int, 0 ≤ j → j < 24 → σ2 55 j = σ0 75 (24 * k + j)) → K (some (.inl 1)) σ2)) : ∀ (m : Nat) (i : Int) (σ : vS), 24 - i < (m : Int) → 0 ≤ i → i ≤ 24 → zfr [12, 52, 55] σ0 σ → (∀ j : Int, 0 ≤ j → j < 402 → σ 52 j = σ0 74 (402 * k + j)) → (∀ j : Int, 0 ≤ j → j < i → σ 55 j = σ0 75 (24 * k + j)) → zGL E gJ1 md261 w gm_261 60 [(0, .inr (.inl 12)), (1, .inl k), (2, .inl i)] σ K := by
  intro m
  induction m with
  | zero => intro i σ h; omega
  | succ m ih =>
    intro i σ hm i0 i1 hf hC hC2
    refine zbdL (fun hb => zgoL X B zS_nilL [] [(27, [0, 1, 2]), (60, [0, 1, 2])] (fun m => Nat.beq m.2.2.2.2.2.2.length 58) (by decide +kernel) ?_)
    refine And.intro (fun (c1 : 24 ≤ i) => ?_) (fun (c2 : i < 24) => ?_)
    · refine And.intro (show 0 ≤ 0 ∧ 0 ≤ 8 from by omega) ?_
      refine And.intro (show 0 ≤ 1 ∧ 1 ≤ 1 from by omega) ?_
      show K (some (.inl 1)) (vup σ 12 22 0)
      exact hK _ (zfr_up hf (by decide)) hC (fun j j0 j1 => hC2 j j0 (by omega))
    · refine And.intro (show -2147483648 ≤ (24 * k) ∧ (24 * k) ≤ 2147483647 from by omega) ?_
      refine And.intro (show -2147483648 ≤ ((24 * k) + i) ∧ ((24 * k) + i) ≤ 2147483647 from by omega) ?_
      refine And.intro (show 0 ≤ ((24 * k) + i) ∧ ((24 * k) + i) < 48 from by omega) ?_
      refine And.intro (show 0 ≤ i ∧ i < 48 from by omega) ?_
      refine And.intro (show -2147483648 ≤ (i + 1) ∧ (i + 1) ≤ 2147483647 from by omega) ?_
      show zGL E gJ1 md261 w gm_261 60 [(0, .inr (.inl 12)), (1, .inl k), (2, .inl (i + 1))] (vup σ 55 i (σ 75 ((24 * k) + i))) K
      refine ih (i + 1) _ (by omega) (by omega) (by omega) (zfr_up hf (by decide)) hC (fun j j0 j1 => ?_)
      rw [vup_f]
      by_cases hj : j = i
      · subst hj
        rw [ful_at, hf 75 (by decide)]
      · rw [ful_ne hj]
        exact hC2 j j0 (by omega)
set_option maxRecDepth 8192 in
theorem w261_1 (X : zX gKX E) (B : zB E) {σ0 : vS} {k : Int} (hk : 0 ≤ k ∧ k ≤ 1) (hK : (∀ σ2 : vS, zfr [12, 52, 55] σ0 σ2 → (∀ j : Int, 0 ≤ j → j < 402 → σ2 52 j = σ0 74 (402 * k + j)) → (∀ j : Int, 0 ≤ j → j < 24 → σ2 55 j = σ0 75 (24 * k + j)) → K (some (.inl 1)) σ2)) : ∀ (m : Nat) (i : Int) (σ : vS), 402 - i < (m : Int) → 0 ≤ i → i ≤ 402 → zfr [12, 52, 55] σ0 σ → (∀ j : Int, 0 ≤ j → j < i → σ 52 j = σ0 74 (402 * k + j)) → zGL E gJ1 md261 w gm_261 27 [(0, .inr (.inl 12)), (1, .inl k), (2, .inl i)] σ K := by
  intro m
  induction m with
  | zero => intro i σ h; omega
  | succ m ih =>
    intro i σ hm i0 i1 hf hC
    refine zbdL (fun hb => zgoL X B zS_nilL [] [(27, [0, 1, 2]), (60, [0, 1, 2])] (fun m => Nat.beq m.2.2.2.2.2.2.length 58) (by decide +kernel) ?_)
    refine And.intro (fun (c1 : 402 ≤ i) => ?_) (fun (c2 : i < 402) => ?_)
    · show zGL E gJ1 md261 w gm_261 60 [(0, .inr (.inl 12)), (1, .inl k), (2, .inl 0)] σ K
      exact w261_2 X B hk hK 25 0 _ (by omega) (by omega) (by omega) hf (fun j j0 j1 => hC j j0 (by omega)) (fun j j0 j1 => by omega)
    · refine And.intro (show -2147483648 ≤ (402 * k) ∧ (402 * k) ≤ 2147483647 from by omega) ?_
      refine And.intro (show -2147483648 ≤ ((402 * k) + i) ∧ ((402 * k) + i) ≤ 2147483647 from by omega) ?_
      refine And.intro (show 0 ≤ ((402 * k) + i) ∧ ((402 * k) + i) < 804 from by omega) ?_
      refine And.intro (show 0 ≤ i ∧ i < 402 from by omega) ?_
      refine And.intro (show vRg (zrg 52) i (σ 74 ((402 * k) + i)) from zL_re B hb hk i0 (by omega)) ?_
      refine And.intro (show -2147483648 ≤ (i + 1) ∧ (i + 1) ≤ 2147483647 from by omega) ?_
      show zGL E gJ1 md261 w gm_261 27 [(0, .inr (.inl 12)), (1, .inl k), (2, .inl (i + 1))] (vup σ 52 i (σ 74 ((402 * k) + i))) K
      refine ih (i + 1) _ (by omega) (by omega) (by omega) (zfr_up hf (by decide)) (fun j j0 j1 => ?_)
      rw [vup_f]
      by_cases hj : j = i
      · subst hj
        rw [ful_at, hf 74 (by decide)]
      · rw [ful_ne hj]
        exact hC j j0 (by omega)
set_option maxRecDepth 8192 in
theorem w261_0 (X : zX gKX E) (B : zB E) {k : Int} (hr : -2147483648 ≤ k ∧ k ≤ 2147483647) (h1 : (0 ≤ k ∧ k ≤ 1) → ¬ σ 76 k = 0 → (∀ σ2 : vS, zfr [12, 52, 55] σ σ2 → (∀ j : Int, 0 ≤ j → j < 402 → σ2 52 j = σ 74 (402 * k + j)) → (∀ j : Int, 0 ≤ j → j < 24 → σ2 55 j = σ 75 (24 * k + j)) → K (some (.inl 1)) σ2)) (h2 : ((k < 0 ∨ 1 < k) ∨ σ 76 k = 0) → ∀ σ2 : vS, zfr [12] σ σ2 → K (some (.inl 0)) σ2) : zGL E gJ1 md261 w gm_261 0 [(0, .inr (.inl 12)), (1, .inl k)] σ K := by
  refine zbdL (fun hb => zgoL X B zS_nilL [] [(27, [0, 1, 2]), (60, [0, 1, 2])] (fun m => Nat.beq m.2.2.2.2.2.2.length 58) (by decide +kernel) ?_)
  refine And.intro (show Int.negSucc 2147483647 ≤ 0 ∧ 0 ≤ 2147483647 from rgm (by omega)) ?_
  refine And.intro (fun (c1 : k < 0) => ?_) (fun (c2 : 0 ≤ k) => ?_)
  · refine And.intro (show 0 ≤ 0 ∧ 0 ≤ 1 from by omega) ?_
    refine And.intro (fun _ => ?_) (fun (q : ¬ 0 = 0) => absurd q (by decide))
    refine And.intro (show 0 ≤ 0 ∧ 0 ≤ 1 from by omega) ?_
    show K (some (.inl 0)) (vup σ 12 0 0)
    exact h2 (by first | exact Or.inl (by omega) | exact Or.inr (by assumption)) _ (zfr_up zfr_refl (by decide))
  · refine And.intro (fun (c3 : 1 < k) => ?_) (fun (c4 : k ≤ 1) => ?_)
    · refine And.intro (show 0 ≤ 0 ∧ 0 ≤ 1 from by omega) ?_
      refine And.intro (fun _ => ?_) (fun (q : ¬ 0 = 0) => absurd q (by decide))
      refine And.intro (show 0 ≤ 0 ∧ 0 ≤ 1 from by omega) ?_
      show K (some (.inl 0)) (vup σ 12 0 0)
      exact h2 (by first | exact Or.inl (by omega) | exact Or.inr (by assumption)) _ (zfr_up zfr_refl (by decide))
    · refine And.intro (show 0 ≤ 1 ∧ 1 ≤ 1 from by omega) ?_
      refine And.intro (fun (q : 1 = 0) => absurd q (by decide)) (fun _ => ?_)
      refine And.intro (show 0 ≤ k ∧ k < 2 from by omega) ?_
      have f5 : 0 ≤ σ 76 k ∧ σ 76 k ≤ 1 := zbL B hb (t := 76) (a := 0) (n := 2) (i := k) (by decide +kernel) (by omega) (by omega)
      refine And.intro (fun (c6 : ¬ (σ 76 k) = 0) => ?_) (fun (c7 : (σ 76 k) = 0) => ?_)
      · show zGL E gJ1 md261 w gm_261 27 [(0, .inr (.inl 12)), (1, .inl k), (2, .inl 0)] (vup σ 12 0 0) K
        exact w261_1 X B (by omega) (h1 (by omega) (by assumption)) 403 0 _ (by omega) (by omega) (by omega) (zfr_up zfr_refl (by decide)) (fun j j0 j1 => by omega)
      · refine And.intro (show 0 ≤ 0 ∧ 0 ≤ 1 from by omega) ?_
        show K (some (.inl 0)) (vup σ 12 0 0)
        exact h2 (by first | exact Or.inl (by omega) | exact Or.inr (by assumption)) _ (zfr_up zfr_refl (by decide))
theorem w261_x (B : zB E) (hb : vBdL (zso E) gST zuq σ) {k : Int} (hk : 0 ≤ k ∧ k ≤ 1) (hX : vX σ) {σ2 : vS} (hf : zfr [12, 52, 55] σ σ2) (hC : ∀ j : Int, 0 ≤ j → j < 402 → σ2 52 j = σ 74 (402 * k + j)) : vX σ2 := by
  have f2 : 0 ≤ σ 74 221 ∧ σ 74 221 ≤ 53 := zbL B hb (t := 74) (a := 221) (n := 222) (i := 221) (by decide +kernel) (by omega) (by omega)
  have f3 : 0 ≤ σ 74 623 ∧ σ 74 623 ≤ 53 := zbL B hb (t := 74) (a := 623) (n := 624) (i := 623) (by decide +kernel) (by omega) (by omega)
  obtain ⟨x1, x2, x3⟩ := hX
  refine ⟨?_, by rw [hf 74 (by decide)]; exact x2, by rw [hf 74 (by decide)]; exact x3⟩
  rcases (show k = 0 ∨ k = 1 by omega) with rfl | rfl
  · refine xVPz_cp (g := σ 74) (a := 221) (fun j j0 j1 => ?_) (by omega) x2
    rw [hC (221 + j) (by omega) (by omega)]
    congr 1
    omega
  · refine xVPz_cp (g := σ 74) (a := 623) (fun j j0 j1 => ?_) (by omega) x3
    rw [hC (221 + j) (by omega) (by omega)]
    congr 1
    omega
set_option maxRecDepth 8192 in
theorem w195 (X : zX gKX E) (B : zB E) {k : Int} (hr : -2147483648 ≤ k ∧ k ≤ 2147483647) (hK : ∀ (v : Int) (σ2 : vS), zfr [12] σ σ2 → ((k = 5 ∧ v = σ 12 2) ∨ ((0 ≤ k ∧ k ≤ 4) ∧ v = σ 52 k) ∨ ((k < 0 ∨ 5 < k) ∧ v = -1)) → K (some (.inl v)) σ2) : zGL E gJ1 md195 w gm_195 0 [(0, .inr (.inl 12)), (1, .inl k)] σ K := by
  refine zbdL (fun hb => zgoL X B zS_nilL [] [] (fun m => Nat.beq m.2.2.2.2.2.2.length 21) (by decide +kernel) ?_)
  refine And.intro (show Int.negSucc 2147483647 ≤ 0 ∧ 0 ≤ 2147483647 from rgm (by omega)) ?_
  refine And.intro (fun (c1 : ¬ k = 5) => ?_) (fun (c2 : k = 5) => ?_)
  · refine And.intro (fun (c3 : k < 0) => ?_) (fun (c4 : 0 ≤ k) => ?_)
    · refine And.intro (show 0 ≤ 0 ∧ 0 ≤ 1 from by omega) ?_
      refine And.intro (fun _ => ?_) (fun (q : ¬ 0 = 0) => absurd q (by decide))
      show K (some (.inl (-1))) (vup σ 12 0 0)
      exact hK _ _ (zfr_up zfr_refl (by decide)) (by first | exact Or.inl ⟨by omega, rfl⟩ | exact Or.inr (Or.inl ⟨by omega, rfl⟩) | exact Or.inr (Or.inr ⟨by omega, rfl⟩))
    · refine And.intro (fun (c5 : 4 < k) => ?_) (fun (c6 : k ≤ 4) => ?_)
      · refine And.intro (show 0 ≤ 0 ∧ 0 ≤ 1 from by omega) ?_
        refine And.intro (fun _ => ?_) (fun (q : ¬ 0 = 0) => absurd q (by decide))
        show K (some (.inl (-1))) (vup σ 12 0 0)
        exact hK _ _ (zfr_up zfr_refl (by decide)) (by first | exact Or.inl ⟨by omega, rfl⟩ | exact Or.inr (Or.inl ⟨by omega, rfl⟩) | exact Or.inr (Or.inr ⟨by omega, rfl⟩))
      · refine And.intro (show 0 ≤ 1 ∧ 1 ≤ 1 from by omega) ?_
        refine And.intro (fun (q : 1 = 0) => absurd q (by decide)) (fun _ => ?_)
        refine And.intro (show 0 ≤ k ∧ k < 402 from by omega) ?_
        show K (some (.inl (σ 52 k))) (vup σ 12 0 0)
        exact hK _ _ (zfr_up zfr_refl (by decide)) (by first | exact Or.inl ⟨by omega, rfl⟩ | exact Or.inr (Or.inl ⟨by omega, rfl⟩) | exact Or.inr (Or.inr ⟨by omega, rfl⟩))
  · have f7 : 0 ≤ σ 12 2 ∧ σ 12 2 ≤ 940 := zfL B hb (t := 12) (f := 2) (by decide +kernel)
    show K (some (.inl (σ 12 2))) (vup σ 12 0 0)
    exact hK _ _ (zfr_up zfr_refl (by decide)) (by first | exact Or.inl ⟨by omega, rfl⟩ | exact Or.inr (Or.inl ⟨by omega, rfl⟩) | exact Or.inr (Or.inr ⟨by omega, rfl⟩))
end ZV1
