/-! THE REFERENCE READS: bad, isWord, isSign, find, isName, exactly. -/
noncomputable section
def rs178 : vSpL := fun vs σ K => match vs with
  | [.inr (.inl 12), .inl k] => (-2147483648 ≤ k ∧ k ≤ 2147483647) ∧ K (some (.inl 0)) (vup (vup σ 12 15 k) 12 16 (σ 12 12))
  | _ => False
def rs230 : vSpL := fun vs σ K => match vs with
  | [.inr (.inl 12), .inr (.inr x)] => ∀ r : Int, ((r = 1 ∧ σ 12 11 = 1 ∧ σ 12 17 = x) ∨ (r = 0 ∧ ¬ (σ 12 11 = 1 ∧ σ 12 17 = x))) → K (some (.inl r)) σ
  | _ => False
def rs228 : vSpL := fun vs σ K => match vs with
  | [.inr (.inl 12), .inl c] => ∀ r : Int, ((r = 1 ∧ σ 12 11 = 3 ∧ σ 12 14 = c) ∨ (r = 0 ∧ ¬ (σ 12 11 = 3 ∧ σ 12 14 = c))) → K (some (.inl r)) σ
  | _ => False
/-- the first from a on, of m, that is x -/
def rfd (f : Int → Int) (a m x r : Int) : Prop := (r = -1 ∧ ∀ j : Int, 0 ≤ j → j < m → ¬ f (a + j) = x) ∨ ((0 ≤ r ∧ r < m) ∧ f (a + r) = x ∧ ∀ j : Int, 0 ≤ j → j < r → ¬ f (a + j) = x)
def rs207 : vSpL := fun vs σ K => match vs with
  | [.inr (.inl 12), .inl a, .inl m] => ((0 ≤ a ∧ 0 ≤ m) ∧ a + m ≤ 48) ∧ ∀ r : Int, rfd (σ 55) a m (σ 12 17) r → K (some (.inl r)) σ
  | _ => False
/-- a word that is none of the thirty -/
def rnm (σ : vS) : Prop := σ 12 11 = 1 ∧ ∀ j : Int, 0 ≤ j → j < 30 → ¬ σ 12 17 = σ 56 j
def rs223 : vSpL := fun vs σ K => match vs with
  | [.inr (.inl 12)] => ∀ r : Int, ((r = 1 ∧ rnm σ) ∨ (r = 0 ∧ ¬ rnm σ)) → K (some (.inl r)) σ
  | _ => False
end
section ZR4
variable {E : zE} {w : va_W} {σ : vS} {K : vKL}
theorem rk_178 (X : zX gKX E) (B : zB E) : zOKL E gJ1 mdT w 178 rs178 := by
  intro q hq vs σ K h
  cases (show gMT 178 = some (gm_178, 2) from rfl).symm.trans hq
  unfold rs178 at h
  split at h
  · rename_i k
    show zGL E gJ1 mdT w gm_178 0 [(0, .inr (.inl 12)), (1, .inl k)] σ K
    have hk := h.1
    refine zbdL (fun hb => zgoL X B zS_nilL [] [] (fun m => false) (by decide +kernel) ?_)
    refine And.intro (show Int.negSucc 2147483647 ≤ k ∧ k ≤ 2147483647 from rgm (by omega)) ?_
    have f1 : 0 ≤ σ 12 12 ∧ σ 12 12 ≤ 940 := zfL B hb (t := 12) (f := 12) (by decide +kernel)
    refine And.intro (show Int.negSucc 2147483647 ≤ (σ 12 12) ∧ (σ 12 12) ≤ 2147483647 from rgm (by omega)) ?_
    refine And.intro (show 0 ≤ 0 ∧ 0 ≤ 1 from by omega) ?_
    exact h.2
  · exact absurd h id
theorem rk_230 (X : zX gKX E) (B : zB E) : zOKL E gJ1 mdT w 230 rs230 := by
  intro q hq vs σ K h
  cases (show gMT 230 = some (gm_230, 3) from rfl).symm.trans hq
  unfold rs230 at h
  split at h
  · rename_i x
    show zGL E gJ1 mdT w gm_230 0 [(0, .inr (.inl 12)), (1, .inr (.inr x))] σ K
    refine zbdL (fun hb => zgoL X B zS_nilL [] [] (fun m => false) (by decide +kernel) ?_)
    have f1 : 0 ≤ σ 12 11 ∧ σ 12 11 ≤ 4 := zfL B hb (t := 12) (f := 11) (by decide +kernel)
    refine And.intro (fun (c2 : ¬ (σ 12 11) = 1) => ?_) (fun (c3 : (σ 12 11) = 1) => ?_)
    · refine And.intro (show 0 ≤ 0 ∧ 0 ≤ 1 from by omega) ?_
      exact h 0 (Or.inr ⟨rfl, by omega⟩)
    · refine And.intro (fun (c4 : (σ 12 17) < x) => ?_) (And.intro (fun (c5 : (σ 12 17) = x) => ?_) (fun (c6 : x < (σ 12 17)) => ?_))
      · refine And.intro (fun _ => ?_) (fun (q : (-1) = 0) => absurd q (by decide))
        refine And.intro (show 0 ≤ 0 ∧ 0 ≤ 1 from by omega) ?_
        exact h 0 (Or.inr ⟨rfl, by omega⟩)
      · refine And.intro (fun (q : ¬ 0 = 0) => absurd q (by decide)) (fun _ => ?_)
        refine And.intro (show 0 ≤ 1 ∧ 1 ≤ 1 from by omega) ?_
        exact h 1 (Or.inl ⟨rfl, by omega, by omega⟩)
      · refine And.intro (fun _ => ?_) (fun (q : 1 = 0) => absurd q (by decide))
        refine And.intro (show 0 ≤ 0 ∧ 0 ≤ 1 from by omega) ?_
        exact h 0 (Or.inr ⟨rfl, by omega⟩)
  · exact absurd h id
theorem rk_228 (X : zX gKX E) (B : zB E) : zOKL E gJ1 mdT w 228 rs228 := by
  intro q hq vs σ K h
  cases (show gMT 228 = some (gm_228, 2) from rfl).symm.trans hq
  unfold rs228 at h
  split at h
  · rename_i c
    show zGL E gJ1 mdT w gm_228 0 [(0, .inr (.inl 12)), (1, .inl c)] σ K
    refine zbdL (fun hb => zgoL X B zS_nilL [] [] (fun m => false) (by decide +kernel) ?_)
    have f1 : 0 ≤ σ 12 11 ∧ σ 12 11 ≤ 4 := zfL B hb (t := 12) (f := 11) (by decide +kernel)
    refine And.intro (fun (c2 : ¬ (σ 12 11) = 3) => ?_) (fun (c3 : (σ 12 11) = 3) => ?_)
    · refine And.intro (show 0 ≤ 0 ∧ 0 ≤ 1 from by omega) ?_
      exact h 0 (Or.inr ⟨rfl, by omega⟩)
    · have f4 : (-2147483648) ≤ σ 12 14 ∧ σ 12 14 ≤ 2147483647 := zfL B hb (t := 12) (f := 14) (by decide +kernel)
      refine And.intro (fun (c5 : ¬ (σ 12 14) = c) => ?_) (fun (c6 : (σ 12 14) = c) => ?_)
      · refine And.intro (show 0 ≤ 0 ∧ 0 ≤ 1 from by omega) ?_
        exact h 0 (Or.inr ⟨rfl, by omega⟩)
      · refine And.intro (show 0 ≤ 1 ∧ 1 ≤ 1 from by omega) ?_
        exact h 1 (Or.inl ⟨rfl, by omega, by omega⟩)
  · exact absurd h id
theorem rk_fd (X : zX gKX E) (B : zB E) {a m0 : Int} (hr : (0 ≤ a ∧ 0 ≤ m0) ∧ a + m0 ≤ 48) (hK : ∀ r : Int, rfd (σ 55) a m0 (σ 12 17) r → K (some (.inl r)) σ) : ∀ (m : Nat) (i : Int), m0 - i < (m : Int) → 0 ≤ i → i ≤ m0 → (∀ j : Int, 0 ≤ j → j < i → ¬ σ 55 (a + j) = σ 12 17) → zGL E gJ1 mdT w gm_207 2 [(0, .inr (.inl 12)), (1, .inl a), (2, .inl m0), (3, .inl i)] σ K := by
  intro m
  induction m with
  | zero => intro i h; omega
  | succ m ih =>
    intro i hm i0 i1 hn
    refine zbdL (fun hb => zgoL X B zS_nilL [] [(2, [0, 1, 2, 3])] (fun m => Nat.beq m.2.2.2.2.2.2.length 21) (by decide +kernel) ?_)
    refine And.intro (fun (c1 : m0 ≤ i) => ?_) (fun (c2 : i < m0) => ?_)
    · exact hK _ (Or.inl ⟨rfl, fun j j0 j1 => hn j j0 (by omega)⟩)
    · refine And.intro (show -2147483648 ≤ (a + i) ∧ (a + i) ≤ 2147483647 from by omega) ?_
      refine And.intro (show 0 ≤ (a + i) ∧ (a + i) < 48 from by omega) ?_
      refine And.intro (fun (c3 : (σ 55 (a + i)) < (σ 12 17)) => ?_) (And.intro (fun (c4 : (σ 55 (a + i)) = (σ 12 17)) => ?_) (fun (c5 : (σ 12 17) < (σ 55 (a + i))) => ?_))
      · refine And.intro (fun _ => ?_) (fun (q : (-1) = 0) => absurd q (by decide))
        refine And.intro (show -2147483648 ≤ (i + 1) ∧ (i + 1) ≤ 2147483647 from by omega) ?_
        show zGL E gJ1 mdT w gm_207 2 [(0, .inr (.inl 12)), (1, .inl a), (2, .inl m0), (3, .inl (i + 1))] σ K
        exact ih (i + 1) (by omega) (by omega) (by omega) (fun j j0 j1 => by
          by_cases e : j = i
          · rw [e]; omega
          · exact hn j j0 (by omega))
      · refine And.intro (fun (q : ¬ 0 = 0) => absurd q (by decide)) (fun _ => ?_)
        exact hK _ (Or.inr ⟨by omega, by omega, hn⟩)
      · refine And.intro (fun _ => ?_) (fun (q : 1 = 0) => absurd q (by decide))
        refine And.intro (show -2147483648 ≤ (i + 1) ∧ (i + 1) ≤ 2147483647 from by omega) ?_
        show zGL E gJ1 mdT w gm_207 2 [(0, .inr (.inl 12)), (1, .inl a), (2, .inl m0), (3, .inl (i + 1))] σ K
        exact ih (i + 1) (by omega) (by omega) (by omega) (fun j j0 j1 => by
          by_cases e : j = i
          · rw [e]; omega
          · exact hn j j0 (by omega))
theorem rk_207 (X : zX gKX E) (B : zB E) : zOKL E gJ1 mdT w 207 rs207 := by
  intro q hq vs σ K h
  cases (show gMT 207 = some (gm_207, 4) from rfl).symm.trans hq
  unfold rs207 at h
  split at h
  · rename_i a m0
    have hh := h.1
    show zGL E gJ1 mdT w gm_207 0 [(0, .inr (.inl 12)), (1, .inl a), (2, .inl m0)] σ K
    refine zbdL (fun hb => zgoL X B zS_nilL [] [(2, [0, 1, 2, 3])] (fun m => Nat.beq m.2.2.2.2.2.2.length 21) (by decide +kernel) ?_)
    show zGL E gJ1 mdT w gm_207 2 [(0, .inr (.inl 12)), (1, .inl a), (2, .inl m0), (3, .inl 0)] σ K
    exact rk_fd X B h.1 h.2 50 0 (by omega) (by omega) (by omega) (fun j j0 j1 => by omega)
  · exact absurd h id
end ZR4
