/-! WORDS ON CALLS: the class's advance. -/
noncomputable section
def cs60 : vSpL := fun vs σ K => match vs with
  | [.inr (.inl 7)] => (0 ≤ σ 7 10 ∧ (0 ≤ σ 7 9 ∧ σ 7 9 ≤ 900)) ∧ ∀ (s : Int) (σ2 : vS), (s ≤ σ 7 1 ∧ s ≤ σ 7 9 ∧ (s = σ 7 1 ∨ s = σ 7 9)) → cfr σ σ2 → ctk (ctx σ) (σ 35) (σ 7 1) (σ 7 9) s (tE (fun q => tbk (ctx σ q)) s (σ 7 10)) σ2 → K none σ2
  | _ => False
end
section ZC6
variable {E : zE} {w : va_W} {σ : vS} {K : vKL}
theorem ck_60 (X : zX gKX E) (B : zB E) : zOKC E md72 w 60 cs60 := by
  intro q hq vs σ K h
  cases (show gMT 60 = some (gm_60, 2) from rfl).symm.trans hq
  unfold cs60 at h
  split at h
  · have hh := h.1
    show zGC E md72 w gm_60 0 [(0, .inr (.inl 7))] σ K
    refine zbdC (fun hb => zgoC X B (cS2_ok X B) [] [(12, [0, 1])] (fun m => Nat.beq m.2.2.2.2.2.2.length 64) (by decide +kernel) ?_)
    have f1 : 0 ≤ σ 7 1 ∧ σ 7 1 ≤ 940 := zfC hb (t := 7) (f := 1) (by decide +kernel)
    have f2 : 0 ≤ σ 7 9 ∧ σ 7 9 ≤ 900 := zfC hb (t := 7) (f := 9) (by decide +kernel)
    refine And.intro (fun (c3 : (σ 7 9) < (σ 7 1)) => ?_) (fun (c4 : (σ 7 1) ≤ (σ 7 9)) => ?_)
    · show zGC E md72 w gm_60 12 [(0, .inr (.inl 7)), (1, .inl (σ 7 9))] σ K
      exact ck_adv X B (σ0 := σ) (s := σ 7 9) ⟨by omega, by omega, by omega, by omega⟩ (fun q => l_o8 _) (fun σ2 c1 c2 => h.2 (σ 7 9) σ2 ⟨by omega, by omega, by omega⟩ c1 c2) 941 σ (by omega) cfr_refl hh.1 rfl
    · show zGC E md72 w gm_60 12 [(0, .inr (.inl 7)), (1, .inl (σ 7 1))] σ K
      exact ck_adv X B (σ0 := σ) (s := σ 7 1) ⟨by omega, by omega, by omega, by omega⟩ (fun q => l_o8 _) (fun σ2 c1 c2 => h.2 (σ 7 1) σ2 ⟨by omega, by omega, by omega⟩ c1 c2) 941 σ (by omega) cfr_refl hh.1 rfl
  · exact absurd h id
end ZC6
