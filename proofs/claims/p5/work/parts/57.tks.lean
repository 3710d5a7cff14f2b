/-! THE REFERENCE READS: isName, exactly. -/
section ZR5
variable {E : zE} {w : va_W} {σ : vS} {K : vKL}
def rni (σ : vS) (i : Int) : Prop := σ 12 11 = 1 ∧ ∀ j : Int, 0 ≤ j → j < i → ¬ σ 12 17 = σ 56 j
theorem rk_ni (X : zX gKX E) (B : zB E) (hK : ∀ r : Int, ((r = 1 ∧ rni σ 30) ∨ (r = 0 ∧ ¬ rni σ 30)) → K (some (.inl r)) σ) : ∀ (m : Nat) (i al : Int), 30 - i < (m : Int) → 0 ≤ i → i ≤ 30 → ((al = 1 ∧ rni σ i) ∨ (al = 0 ∧ ¬ rni σ i)) → zGL E gJ1 mdT w gm_223 16 [(0, .inr (.inl 12)), (1, .inl al), (2, .inl i)] σ K := by
  intro m
  induction m with
  | zero => intro i al h; omega
  | succ m ih =>
    intro i al hm i0 i1 hI
    have hal : al = 0 ∨ al = 1 := by rcases hI with hI | hI <;> omega
    refine zbdL (fun hb => zgoL X B zS_nilL [] [(16, [0, 1, 2])] (fun m => Nat.beq m.2.2.2.2.2.2.length 31) (by decide +kernel) ?_)
    refine And.intro (fun (c1 : 30 ≤ i) => ?_) (fun (c2 : i < 30) => ?_)
    · refine And.intro (show 0 ≤ al ∧ al ≤ 1 from by omega) ?_
      have ei : i = 30 := by omega
      subst ei
      exact hK _ hI
    · refine And.intro (fun (c3 : al = 0) => ?_) (fun (c4 : ¬ al = 0) => ?_)
      · refine And.intro (show -2147483648 ≤ (i + 1) ∧ (i + 1) ≤ 2147483647 from by omega) ?_
        show zGL E gJ1 mdT w gm_223 16 [(0, .inr (.inl 12)), (1, .inl 0), (2, .inl (i + 1))] σ K
        exact ih (i + 1) 0 (by omega) (by omega) (by omega) (Or.inr ⟨rfl, fun q => by first | exact q.2 i i0 (by omega) (by omega) | (rcases hI with hI | hI <;> first | omega | exact hI.2 ⟨q.1, fun j j0 j1 => q.2 j j0 (by omega)⟩)⟩)
      · refine And.intro (show 0 ≤ i ∧ i < 30 from by omega) ?_
        refine And.intro (fun (c5 : (σ 12 17) < (σ 56 i)) => ?_) (And.intro (fun (c6 : (σ 12 17) = (σ 56 i)) => ?_) (fun (c7 : (σ 56 i) < (σ 12 17)) => ?_))
        · refine And.intro (fun (q : (-1) = 0) => absurd q (by decide)) (fun _ => ?_)
          refine And.intro (show -2147483648 ≤ (i + 1) ∧ (i + 1) ≤ 2147483647 from by omega) ?_
          show zGL E gJ1 mdT w gm_223 16 [(0, .inr (.inl 12)), (1, .inl 1), (2, .inl (i + 1))] σ K
          exact ih (i + 1) 1 (by omega) (by omega) (by omega) (Or.inl ⟨rfl, by rcases hI with hI | hI <;> first | omega | exact ⟨hI.2.1, fun j j0 j1 => by
            by_cases e : j = i
            · rw [e]; omega
            · exact hI.2.2 j j0 (by omega)⟩⟩)
        · refine And.intro (fun _ => ?_) (fun (q : ¬ 0 = 0) => absurd q (by decide))
          refine And.intro (show -2147483648 ≤ (i + 1) ∧ (i + 1) ≤ 2147483647 from by omega) ?_
          show zGL E gJ1 mdT w gm_223 16 [(0, .inr (.inl 12)), (1, .inl 0), (2, .inl (i + 1))] σ K
          exact ih (i + 1) 0 (by omega) (by omega) (by omega) (Or.inr ⟨rfl, fun q => by first | exact q.2 i i0 (by omega) (by omega) | (rcases hI with hI | hI <;> first | omega | exact hI.2 ⟨q.1, fun j j0 j1 => q.2 j j0 (by omega)⟩)⟩)
        · refine And.intro (fun (q : 1 = 0) => absurd q (by decide)) (fun _ => ?_)
          refine And.intro (show -2147483648 ≤ (i + 1) ∧ (i + 1) ≤ 2147483647 from by omega) ?_
          show zGL E gJ1 mdT w gm_223 16 [(0, .inr (.inl 12)), (1, .inl 1), (2, .inl (i + 1))] σ K
          exact ih (i + 1) 1 (by omega) (by omega) (by omega) (Or.inl ⟨rfl, by rcases hI with hI | hI <;> first | omega | exact ⟨hI.2.1, fun j j0 j1 => by
            by_cases e : j = i
            · rw [e]; omega
            · exact hI.2.2 j j0 (by omega)⟩⟩)
theorem rk_223 (X : zX gKX E) (B : zB E) : zOKL E gJ1 mdT w 223 rs223 := by
  intro q hq vs σ K h
  cases (show gMT 223 = some (gm_223, 3) from rfl).symm.trans hq
  unfold rs223 at h
  split at h
  · show zGL E gJ1 mdT w gm_223 0 [(0, .inr (.inl 12))] σ K
    refine zbdL (fun hb => zgoL X B zS_nilL [] [(16, [0, 1, 2])] (fun m => Nat.beq m.2.2.2.2.2.2.length 31) (by decide +kernel) ?_)
    have f1 : 0 ≤ σ 12 11 ∧ σ 12 11 ≤ 4 := zfL B hb (t := 12) (f := 11) (by decide +kernel)
    refine And.intro (fun (c2 : ¬ (σ 12 11) = 1) => ?_) (fun (c3 : (σ 12 11) = 1) => ?_)
    · show zGL E gJ1 mdT w gm_223 16 [(0, .inr (.inl 12)), (1, .inl 0), (2, .inl 0)] σ K
      exact rk_ni X B (fun r hr => h r hr) 31 0 0 (by omega) (by omega) (by omega) (Or.inr ⟨rfl, fun q => by have := q.1; omega⟩)
    · show zGL E gJ1 mdT w gm_223 16 [(0, .inr (.inl 12)), (1, .inl 1), (2, .inl 0)] σ K
      exact rk_ni X B (fun r hr => h r hr) 31 0 1 (by omega) (by omega) (by omega) (Or.inl ⟨rfl, by omega, fun j j0 j1 => by omega⟩)
  · exact absurd h id
end ZR5
