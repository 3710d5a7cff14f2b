/-! THE CLASS READS: fail, isSign, keyword, numberWithin, exactly. -/
noncomputable section
def cfl (σ : vS) (k : Int) : vS := vup (vup σ 7 2 k) 7 3 (σ 7 5)
def cs65 : vSpL := fun vs σ K => match vs with
  | [.inr (.inl 7), .inl k] => ((0 ≤ k ∧ k ≤ 4) ∧ 0 ≤ σ 7 5 ∧ σ 7 5 ≤ 900) ∧ K (some (.inl 0)) (cfl σ k)
  | _ => False
def cs68 : vSpL := fun vs σ K => match vs with
  | [.inr (.inl 7), .inl c] => ∀ r : Int, ((r = 1 ∧ σ 7 4 = 5 ∧ σ 7 6 = c) ∨ (r = 0 ∧ ¬ (σ 7 4 = 5 ∧ σ 7 6 = c))) → K (some (.inl r)) σ
  | _ => False
def cs69 : vSpL := fun vs σ K => match vs with
  | [.inr (.inl 7)] => ∀ r : Int, ((σ 7 4 = 2 ∧ r = σ 7 6) ∨ (¬ σ 7 4 = 2 ∧ r = -1)) → K (some (.inl r)) σ
  | _ => False
def cs71 : vSpL := fun vs σ K => match vs with
  | [.inr (.inl 7), .inl lo, .inl hi] => (0 ≤ σ 7 5 ∧ σ 7 5 ≤ 900) ∧ (¬ σ 7 4 = 4 → K (some (.inl (-1))) (cfl σ 1)) ∧ (σ 7 4 = 4 → (σ 7 6 < lo ∨ hi < σ 7 6) → K (some (.inl (-1))) (cfl σ 2)) ∧ (σ 7 4 = 4 → lo ≤ σ 7 6 → σ 7 6 ≤ hi → K (some (.inl (σ 7 6))) σ)
  | _ => False
end
section ZC7
variable {E : zE} {w : va_W} {σ : vS} {K : vKL}
theorem ck_65 (X : zX gKX E) (B : zB E) : zOKC E md72 w 65 cs65 := by
  intro q hq vs σ K h
  cases (show gMT 65 = some (gm_65, 2) from rfl).symm.trans hq
  unfold cs65 at h
  split at h
  · rename_i k
    show zGC E md72 w gm_65 0 [(0, .inr (.inl 7)), (1, .inl k)] σ K
    have hk := h.1
    refine zbdC (fun hb => zgoC X B zS_nilC [] [] (fun m => false) (by decide +kernel) ?_)
    refine And.intro (show 0 ≤ k ∧ k ≤ 4 from by omega) ?_
    have f1 : (-2147483648) ≤ σ 7 5 ∧ σ 7 5 ≤ 900 := zfC hb (t := 7) (f := 5) (by decide +kernel)
    refine And.intro (show Int.negSucc 2147483647 ≤ (σ 7 5) ∧ (σ 7 5) ≤ 900 from rgm (by omega)) ?_
    refine And.intro (show 0 ≤ 0 ∧ 0 ≤ 1 from by omega) ?_
    exact h.2
  · exact absurd h id
theorem ck_68 (X : zX gKX E) (B : zB E) : zOKC E md72 w 68 cs68 := by
  intro q hq vs σ K h
  cases (show gMT 68 = some (gm_68, 2) from rfl).symm.trans hq
  unfold cs68 at h
  split at h
  · rename_i c
    show zGC E md72 w gm_68 0 [(0, .inr (.inl 7)), (1, .inl c)] σ K
    refine zbdC (fun hb => zgoC X B zS_nilC [] [] (fun m => false) (by decide +kernel) ?_)
    have f1 : 0 ≤ σ 7 4 ∧ σ 7 4 ≤ 5 := zfC hb (t := 7) (f := 4) (by decide +kernel)
    refine And.intro (fun (c2 : ¬ (σ 7 4) = 5) => ?_) (fun (c3 : (σ 7 4) = 5) => ?_)
    · refine And.intro (show 0 ≤ 0 ∧ 0 ≤ 1 from by omega) ?_
      exact h 0 (Or.inr ⟨rfl, by omega⟩)
    · have f4 : (-2147483648) ≤ σ 7 6 ∧ σ 7 6 ≤ 2147483647 := zfC hb (t := 7) (f := 6) (by decide +kernel)
      refine And.intro (fun (c5 : ¬ (σ 7 6) = c) => ?_) (fun (c6 : (σ 7 6) = c) => ?_)
      · refine And.intro (show 0 ≤ 0 ∧ 0 ≤ 1 from by omega) ?_
        exact h 0 (Or.inr ⟨rfl, by omega⟩)
      · refine And.intro (show 0 ≤ 1 ∧ 1 ≤ 1 from by omega) ?_
        exact h 1 (Or.inl ⟨rfl, by omega, by omega⟩)
  · exact absurd h id
theorem ck_69 (X : zX gKX E) (B : zB E) : zOKC E md72 w 69 cs69 := by
  intro q hq vs σ K h
  cases (show gMT 69 = some (gm_69, 1) from rfl).symm.trans hq
  unfold cs69 at h
  split at h
  · skip
    show zGC E md72 w gm_69 0 [(0, .inr (.inl 7))] σ K
    refine zbdC (fun hb => zgoC X B zS_nilC [] [] (fun m => false) (by decide +kernel) ?_)
    have f1 : 0 ≤ σ 7 4 ∧ σ 7 4 ≤ 5 := zfC hb (t := 7) (f := 4) (by decide +kernel)
    refine And.intro (fun (c2 : ¬ (σ 7 4) = 2) => ?_) (fun (c3 : (σ 7 4) = 2) => ?_)
    · exact h (-1) (Or.inr ⟨by omega, rfl⟩)
    · have f4 : (-2147483648) ≤ σ 7 6 ∧ σ 7 6 ≤ 2147483647 := zfC hb (t := 7) (f := 6) (by decide +kernel)
      exact h (σ 7 6) (Or.inl ⟨by omega, rfl⟩)
  · exact absurd h id
theorem ck_71 (X : zX gKX E) (B : zB E) : zOKC E md72 w 71 cs71 := by
  intro q hq vs σ K h
  cases (show gMT 71 = some (gm_71, 3) from rfl).symm.trans hq
  unfold cs71 at h
  split at h
  · rename_i lo hi
    show zGC E md72 w gm_71 0 [(0, .inr (.inl 7)), (1, .inl lo), (2, .inl hi)] σ K
    have hk := h.1
    refine zbdC (fun hb => zgoC X B zS_nilC [] [] (fun m => false) (by decide +kernel) ?_)
    have f1 : 0 ≤ σ 7 4 ∧ σ 7 4 ≤ 5 := zfC hb (t := 7) (f := 4) (by decide +kernel)
    refine And.intro (fun (c2 : (σ 7 4) = 4) => ?_) (fun (c3 : ¬ (σ 7 4) = 4) => ?_)
    · have f4 : (-2147483648) ≤ σ 7 6 ∧ σ 7 6 ≤ 2147483647 := zfC hb (t := 7) (f := 6) (by decide +kernel)
      refine And.intro (fun (c5 : (σ 7 6) < lo) => ?_) (fun (c6 : lo ≤ (σ 7 6)) => ?_)
      · refine And.intro (show 0 ≤ 2 ∧ 2 ≤ 4 from by omega) ?_
        have f7 : (-2147483648) ≤ σ 7 5 ∧ σ 7 5 ≤ 900 := zfC hb (t := 7) (f := 5) (by decide +kernel)
        refine And.intro (show Int.negSucc 2147483647 ≤ (σ 7 5) ∧ (σ 7 5) ≤ 900 from rgm (by omega)) ?_
        refine And.intro (show 0 ≤ 0 ∧ 0 ≤ 1 from by omega) ?_
        exact h.2.2.1 (by omega) (by omega)
      · refine And.intro (fun (c8 : (σ 7 6) ≤ hi) => ?_) (fun (c9 : hi < (σ 7 6)) => ?_)
        · exact h.2.2.2 (by omega) (by omega) (by omega)
        · refine And.intro (show 0 ≤ 2 ∧ 2 ≤ 4 from by omega) ?_
          have f10 : (-2147483648) ≤ σ 7 5 ∧ σ 7 5 ≤ 900 := zfC hb (t := 7) (f := 5) (by decide +kernel)
          refine And.intro (show Int.negSucc 2147483647 ≤ (σ 7 5) ∧ (σ 7 5) ≤ 900 from rgm (by omega)) ?_
          refine And.intro (show 0 ≤ 0 ∧ 0 ≤ 1 from by omega) ?_
          exact h.2.2.1 (by omega) (by omega)
    · refine And.intro (show 0 ≤ 1 ∧ 1 ≤ 4 from by omega) ?_
      have f11 : (-2147483648) ≤ σ 7 5 ∧ σ 7 5 ≤ 900 := zfC hb (t := 7) (f := 5) (by decide +kernel)
      refine And.intro (show Int.negSucc 2147483647 ≤ (σ 7 5) ∧ (σ 7 5) ≤ 900 from rgm (by omega)) ?_
      refine And.intro (show 0 ≤ 0 ∧ 0 ≤ 1 from by omega) ?_
      exact h.2.1 (by omega)
  · exact absurd h id
end ZC7
