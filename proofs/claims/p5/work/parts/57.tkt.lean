/-! WORDS ON CALLS: the reference's skip, the class's advance. -/
noncomputable section
def rs271 : vSpL := fun vs σ K => match vs with
  | [.inr (.inl 12)] => ∀ σ2 : vS, rfr σ σ2 → rtk (rtx σ) (σ 12 3) (σ 12 5) (tE (fun q => tbk (rtx σ q)) (σ 12 3) (σ 12 4)) σ2 → K none σ2
  | _ => False
end
section ZT0
variable {E : zE} {w : va_W} {σ : vS} {K : vKL}
theorem l_o8 (x : Int) : 0 ≤ vand x 255 ∧ vand x 255 ≤ 255 := by
  unfold vand
  have h1 := i_and_r (x := Int32.ofInt x) (y := Int32.ofInt 255) (by decide)
  have e : (Int32.ofInt 255).toInt = 255 := rfl
  rw [e] at h1
  exact h1
theorem rk_271 (X : zX gKX E) (B : zB E) : zOKL E gJ1 mdT w 271 rs271 := by
  intro q hq vs σ K h
  cases (show gMT 271 = some (gm_271, 4) from rfl).symm.trans hq
  unfold rs271 at h
  split at h
  · show zGL E gJ1 mdT w gm_271 0 [(0, .inr (.inl 12))] σ K
    refine zbdL (fun hb => ?_)
    have n4 : 0 ≤ σ 12 4 ∧ σ 12 4 ≤ 940 := zfL B hb (t := 12) (f := 4) (by decide +kernel)
    exact rk_skip X B (σ0 := σ) (fun q => l_o8 _) h 941 σ (by omega) rfr_refl rfl
  · exact absurd h id
end ZT0
