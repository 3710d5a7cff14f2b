/-! THE CLASS READS: advance, exactly. -/
noncomputable section
def cs72 : vSpL := fun vs σ K => match vs with
  | [.inr (.inl 7)] => ((0 ≤ σ 7 5 ∧ σ 7 5 ≤ 940 ∧ σ 7 10 = σ 7 5) ∧ ∀ q : Int, 0 ≤ ctx σ q ∧ ctx σ q ≤ 255) ∧ ∀ (k : Nat) (σ2 : vS), cfr σ σ2 → σ2 7 5 = σ 7 5 → σ2 7 10 = σ 7 5 + (k : Int) → σ 7 5 + (k : Int) = tE (fun q => tal (ctx σ q)) (σ 7 1) (σ 7 5) → ctr (ctx σ) (σ 35) (σ 7 5) k (σ2 7 4) (σ2 7 6) (σ2 7 7) → K none σ2
  | _ => False
/-- what advance makes, from the end of the blanks on: s is where the text is to stop -/
def ctk (τ f : Int → Int) (n lim s b : Int) (σ : vS) : Prop :=
  (s ≤ b ∧ σ 7 5 = s ∧ ((lim < n ∧ σ 7 4 = 1) ∨ (n ≤ lim ∧ σ 7 4 = 0)))
  ∨ (b < s ∧ σ 7 5 = b ∧ tal (τ b) = true ∧ ∃ k : Nat, σ 7 10 = b + (k : Int) ∧ b + (k : Int) = tE (fun q => tal (τ q)) n b ∧ ctr τ f b k (σ 7 4) (σ 7 6) (σ 7 7))
  ∨ (b < s ∧ σ 7 5 = b ∧ tal (τ b) = false ∧ σ 7 10 = b + 1 ∧ σ 7 6 = τ b ∧ ((tsg (τ b) ∧ σ 7 4 = 5) ∨ (¬ tsg (τ b) ∧ σ 7 4 = 1)))
def cS2 : List (Nat × vSpL) := (72, cs72) :: cS
end
section ZC4
variable {E : zE} {w : va_W} {σ : vS} {K : vKL}
theorem cfr_refl {σ0 : vS} : cfr σ0 σ0 := ⟨fun _ _ => rfl, fun _ _ _ _ _ _ => rfl⟩
theorem cfr_tr {σ0 σ1 σ2 : vS} (h : cfr σ0 σ1) (h2 : cfr σ1 σ2) : cfr σ0 σ2 := ⟨fun t ht => (h2.1 t ht).trans (h.1 t ht), fun i a1 a2 a3 a4 a5 => (h2.2 i a1 a2 a3 a4 a5).trans (h.2 i a1 a2 a3 a4 a5)⟩
theorem ck_72 (X : zX gKX E) (B : zB E) : zOKC E md72 w 72 cs72 := by
  intro q hq vs σ K h
  cases (show gMT 72 = some (gm_72, 5) from rfl).symm.trans hq
  unfold cs72 at h
  split at h
  · show zGC E md72 w gm_72 0 [(0, .inr (.inl 7))] σ K
    have hh := h.1.1
    refine zbdC (fun hb => zgoC X B (cS_ok X B) [78, 84] [(11, [0, 1, 2, 3])] (fun m => Nat.beq m.2.2.2.2.2.2.length 89) (by decide +kernel) ?_)
    show zGC E md72 w gm_72 11 [(0, .inr (.inl 7)), (1, .inl 0), (2, .inl 0), (3, .inl 0)] (vup σ 7 7 0) K
    exact ck_run (σ0 := σ) X B h.1.2 h.1.1.1 (fun k σ2 c1 c2 c3 c4 c5 => h.2 k σ2 c1 c2 c3 c4 c5) 941 0 0 0 0 _ (by omega) ⟨cfr_up cfr_refl (by decide), rfl, (show σ 7 10 = σ 7 5 + ((0 : Nat) : Int) by omega), ⟨rfl, Int.le_refl _, Int.le_refl _⟩, ⟨fun _ j hj => absurd hj (Nat.not_lt_zero j), fun _ => rfl⟩, ⟨fun _ j hj => absurd hj (Nat.not_lt_zero j), fun _ => rfl⟩, fun _ _ => rfl, fun _ _ => rfl, (by rw [show σ 7 5 + ((0 : Nat) : Int) = σ 7 5 by omega]), by decide, by omega⟩
  · exact absurd h id
theorem cS2_ok (X : zX gKX E) (B : zB E) : zSC E md72 w cS2 := zS_consC (ck_72 X B) (cS_ok X B)
theorem cbk_iff {c : Int} : cbk c = 0 ↔ ¬ (c = 32 ∨ c = 10) := by
  unfold cbk
  by_cases h : c = 32 ∨ c = 10
  · rw [if_pos h]; exact ⟨fun q => absurd q (by decide), fun q => absurd h q⟩
  · rw [if_neg h]; exact ⟨fun _ => h, fun _ => rfl⟩
theorem ck_advs (X : zX gKX E) (B : zB E) {σ0 : vS} {b s : Int} (hs : (0 ≤ s ∧ s ≤ 900) ∧ s ≤ σ0 7 1 ∧ s ≤ σ0 7 9 ∧ (s = σ0 7 1 ∨ s = σ0 7 9)) (h8 : ∀ q : Int, 0 ≤ ctx σ0 q ∧ ctx σ0 q ≤ 255) (hK : ∀ σ2 : vS, cfr σ0 σ2 → ctk (ctx σ0) (σ0 35) (σ0 7 1) (σ0 7 9) s b σ2 → K none σ2) {σ : vS} (h1 : cfr σ0 σ) (h0 : 0 ≤ σ 7 10) (hE : tE (fun q => tbk (ctx σ0 q)) s (σ 7 10) = b) (hloop : ∀ σ2 : vS, σ 7 10 < s → σ2 7 10 = σ 7 10 + 1 → cfr σ0 σ2 → tE (fun q => tbk (ctx σ0 q)) s (σ 7 10 + 1) = b → zGC E md72 w gm_60 12 [(0, .inr (.inl 7)), (1, .inl s)] σ2 K) : zGC E md72 w gm_60 12 [(0, .inr (.inl 7)), (1, .inl s)] σ K := by
    refine zbdC (fun hb => ?_)
    have f1 : 0 ≤ σ 7 1 ∧ σ 7 1 ≤ 940 := zfC hb (t := 7) (f := 1) (by decide +kernel)
    have e1 : σ 7 1 = σ0 7 1 := h1.2 1 (by decide) (by decide) (by decide) (by decide) (by decide)
    have e9 : σ 7 9 = σ0 7 9 := h1.2 9 (by decide) (by decide) (by decide) (by decide) (by decide)
    have g1 := cgo_iff (c := cba σ (σ 7 10))
    have g2 := cbk_iff (c := cba σ (σ 7 10))
    have hq := cba_of h1 (i := σ 7 10)
    have hin : σ 7 10 < s → cba σ (σ 7 10) = ctx σ0 (σ 7 10) := fun q => by rw [if_pos ⟨h0, by omega⟩] at hq; exact hq
    have h8x := h8 (σ 7 10)
    have hc8 : 0 ≤ cba σ (σ 7 10) ∧ cba σ (σ 7 10) ≤ 255 := by
      rw [hq]
      by_cases q : 0 ≤ σ 7 10 ∧ σ 7 10 < σ0 7 1
      · rw [if_pos q]; exact h8x
      · rw [if_neg q]; omega
    have h8x1 : ∀ q : Int, 0 ≤ ctx σ q ∧ ctx σ q ≤ 255 := fun q => by
      have e : ctx σ = ctx σ0 := by unfold ctx; rw [h1.1 34 (by decide)]
      rw [e]
      exact h8 q
    have hbk : σ 7 10 < s ∧ cbk (cba σ (σ 7 10)) = 0 → b = σ 7 10 := fun q => by
      rw [← hE]
      refine tE_stop (P := fun q => tbk (ctx σ0 q)) (fun q2 => ?_)
      have q3 := tbk_iff.mp q2.2
      have q4 := hin q.1
      have q5 := g2.mp q.2
      rw [q4] at q5
      exact q5 q3
    have hbs : s ≤ σ 7 10 → s ≤ b := fun q => by
      rw [← hE, tE_stop (P := fun q => tbk (ctx σ0 q)) (fun q2 => by omega)]
      exact q
    refine zgoC X B (cS2_ok X B) [] [(12, [0, 1])] (fun m => Nat.beq m.2.2.2.2.2.2.length 64) (by decide +kernel) ?_
    have f1 : (-2147483648) ≤ σ 7 10 ∧ σ 7 10 ≤ 2147483647 := zfC hb (t := 7) (f := 10) (by decide +kernel)
    refine And.intro (fun (c2 : s ≤ (σ 7 10)) => ?_) (fun (c3 : (σ 7 10) < s) => ?_)
    · refine And.intro (show Int.negSucc 2147483647 ≤ (-1) ∧ (-1) ≤ 2147483647 from rgm (by omega)) ?_
      refine And.intro (fun (c4 : (σ 7 10) < s) => ?_) (fun (c5 : s ≤ (σ 7 10)) => ?_)
      · refine And.intro (show Int.negSucc 2147483647 ≤ (σ 7 10) ∧ (σ 7 10) ≤ 900 from rgm (by omega)) ?_
        refine And.intro (fun (c6 : (cgo (cba σ (σ 7 10))) = 0) => ?_) (fun (c7 : ¬ (cgo (cba σ (σ 7 10))) = 0) => ?_)
        · refine And.intro (show -2147483648 ≤ ((σ 7 10) + 1) ∧ ((σ 7 10) + 1) ≤ 2147483647 from by omega) ?_
          refine And.intro (show Int.negSucc 2147483647 ≤ ((σ 7 10) + 1) ∧ ((σ 7 10) + 1) ≤ 2147483647 from rgm (by omega)) ?_
          refine And.intro (fun (c8 : (cba σ (σ 7 10)) = 59) => ?_) (fun (c9 : ¬ (cba σ (σ 7 10)) = 59) => ?_)
          · refine And.intro (fun (q : 1 = 0) => absurd q (by decide)) (fun _ => ?_)
            refine And.intro (show 0 ≤ 5 ∧ 5 ≤ 5 from by omega) ?_
            refine And.intro (show Int.negSucc 2147483647 ≤ (cba σ (σ 7 10)) ∧ (cba σ (σ 7 10)) ≤ 2147483647 from rgm (by omega)) ?_
            show K none (vup (vup (vup (vup (vup σ 7 6 (-1)) 7 5 (σ 7 10)) 7 10 ((σ 7 10) + 1)) 7 4 5) 7 6 (cba σ (σ 7 10)))
            have hbe := hbk (by omega)
            refine hK _ (cfr_up (cfr_up (cfr_up (cfr_up (cfr_up (h1) (by decide)) (by decide)) (by decide)) (by decide)) (by decide)) (Or.inr (Or.inr ?_))
            rw [hbe]
            exact ⟨by omega, rfl, tal_f (by have := hin (by omega); omega) (by have := hin (by omega); omega), rfl, hin (by omega), Or.inl ⟨(by unfold tsg; have := hin (by omega); omega), rfl⟩⟩
          · refine And.intro (fun (c10 : (cba σ (σ 7 10)) = 60) => ?_) (fun (c11 : ¬ (cba σ (σ 7 10)) = 60) => ?_)
            · refine And.intro (fun (q : 1 = 0) => absurd q (by decide)) (fun _ => ?_)
              refine And.intro (show 0 ≤ 5 ∧ 5 ≤ 5 from by omega) ?_
              refine And.intro (show Int.negSucc 2147483647 ≤ (cba σ (σ 7 10)) ∧ (cba σ (σ 7 10)) ≤ 2147483647 from rgm (by omega)) ?_
              show K none (vup (vup (vup (vup (vup σ 7 6 (-1)) 7 5 (σ 7 10)) 7 10 ((σ 7 10) + 1)) 7 4 5) 7 6 (cba σ (σ 7 10)))
              have hbe := hbk (by omega)
              refine hK _ (cfr_up (cfr_up (cfr_up (cfr_up (cfr_up (h1) (by decide)) (by decide)) (by decide)) (by decide)) (by decide)) (Or.inr (Or.inr ?_))
              rw [hbe]
              exact ⟨by omega, rfl, tal_f (by have := hin (by omega); omega) (by have := hin (by omega); omega), rfl, hin (by omega), Or.inl ⟨(by unfold tsg; have := hin (by omega); omega), rfl⟩⟩
            · refine And.intro (fun (c12 : (cba σ (σ 7 10)) = 61) => ?_) (fun (c13 : ¬ (cba σ (σ 7 10)) = 61) => ?_)
              · refine And.intro (fun (q : 1 = 0) => absurd q (by decide)) (fun _ => ?_)
                refine And.intro (show 0 ≤ 5 ∧ 5 ≤ 5 from by omega) ?_
                refine And.intro (show Int.negSucc 2147483647 ≤ (cba σ (σ 7 10)) ∧ (cba σ (σ 7 10)) ≤ 2147483647 from rgm (by omega)) ?_
                show K none (vup (vup (vup (vup (vup σ 7 6 (-1)) 7 5 (σ 7 10)) 7 10 ((σ 7 10) + 1)) 7 4 5) 7 6 (cba σ (σ 7 10)))
                have hbe := hbk (by omega)
                refine hK _ (cfr_up (cfr_up (cfr_up (cfr_up (cfr_up (h1) (by decide)) (by decide)) (by decide)) (by decide)) (by decide)) (Or.inr (Or.inr ?_))
                rw [hbe]
                exact ⟨by omega, rfl, tal_f (by have := hin (by omega); omega) (by have := hin (by omega); omega), rfl, hin (by omega), Or.inl ⟨(by unfold tsg; have := hin (by omega); omega), rfl⟩⟩
              · refine And.intro (fun (c14 : (cba σ (σ 7 10)) = 62) => ?_) (fun (c15 : ¬ (cba σ (σ 7 10)) = 62) => ?_)
                · refine And.intro (fun (q : 1 = 0) => absurd q (by decide)) (fun _ => ?_)
                  refine And.intro (show 0 ≤ 5 ∧ 5 ≤ 5 from by omega) ?_
                  refine And.intro (show Int.negSucc 2147483647 ≤ (cba σ (σ 7 10)) ∧ (cba σ (σ 7 10)) ≤ 2147483647 from rgm (by omega)) ?_
                  show K none (vup (vup (vup (vup (vup σ 7 6 (-1)) 7 5 (σ 7 10)) 7 10 ((σ 7 10) + 1)) 7 4 5) 7 6 (cba σ (σ 7 10)))
                  have hbe := hbk (by omega)
                  refine hK _ (cfr_up (cfr_up (cfr_up (cfr_up (cfr_up (h1) (by decide)) (by decide)) (by decide)) (by decide)) (by decide)) (Or.inr (Or.inr ?_))
                  rw [hbe]
                  exact ⟨by omega, rfl, tal_f (by have := hin (by omega); omega) (by have := hin (by omega); omega), rfl, hin (by omega), Or.inl ⟨(by unfold tsg; have := hin (by omega); omega), rfl⟩⟩
                · refine And.intro (fun (c16 : (cba σ (σ 7 10)) = 40) => ?_) (fun (c17 : ¬ (cba σ (σ 7 10)) = 40) => ?_)
                  · refine And.intro (fun (q : 1 = 0) => absurd q (by decide)) (fun _ => ?_)
                    refine And.intro (show 0 ≤ 5 ∧ 5 ≤ 5 from by omega) ?_
                    refine And.intro (show Int.negSucc 2147483647 ≤ (cba σ (σ 7 10)) ∧ (cba σ (σ 7 10)) ≤ 2147483647 from rgm (by omega)) ?_
                    show K none (vup (vup (vup (vup (vup σ 7 6 (-1)) 7 5 (σ 7 10)) 7 10 ((σ 7 10) + 1)) 7 4 5) 7 6 (cba σ (σ 7 10)))
                    have hbe := hbk (by omega)
                    refine hK _ (cfr_up (cfr_up (cfr_up (cfr_up (cfr_up (h1) (by decide)) (by decide)) (by decide)) (by decide)) (by decide)) (Or.inr (Or.inr ?_))
                    rw [hbe]
                    exact ⟨by omega, rfl, tal_f (by have := hin (by omega); omega) (by have := hin (by omega); omega), rfl, hin (by omega), Or.inl ⟨(by unfold tsg; have := hin (by omega); omega), rfl⟩⟩
                  · refine And.intro (fun (c18 : ¬ (cba σ (σ 7 10)) = 41) => ?_) (fun (c19 : (cba σ (σ 7 10)) = 41) => ?_)
                    · refine And.intro (fun _ => ?_) (fun (q : ¬ 0 = 0) => absurd q (by decide))
                      refine And.intro (show 0 ≤ 1 ∧ 1 ≤ 5 from by omega) ?_
                      refine And.intro (show Int.negSucc 2147483647 ≤ (cba σ (σ 7 10)) ∧ (cba σ (σ 7 10)) ≤ 2147483647 from rgm (by omega)) ?_
                      show K none (vup (vup (vup (vup (vup σ 7 6 (-1)) 7 5 (σ 7 10)) 7 10 ((σ 7 10) + 1)) 7 4 1) 7 6 (cba σ (σ 7 10)))
                      have hbe := hbk (by omega)
                      refine hK _ (cfr_up (cfr_up (cfr_up (cfr_up (cfr_up (h1) (by decide)) (by decide)) (by decide)) (by decide)) (by decide)) (Or.inr (Or.inr ?_))
                      rw [hbe]
                      exact ⟨by omega, rfl, tal_f (by have := hin (by omega); omega) (by have := hin (by omega); omega), rfl, hin (by omega), Or.inr ⟨(by unfold tsg; have := hin (by omega); omega), rfl⟩⟩
                    · refine And.intro (fun (q : 1 = 0) => absurd q (by decide)) (fun _ => ?_)
                      refine And.intro (show 0 ≤ 5 ∧ 5 ≤ 5 from by omega) ?_
                      refine And.intro (show Int.negSucc 2147483647 ≤ (cba σ (σ 7 10)) ∧ (cba σ (σ 7 10)) ≤ 2147483647 from rgm (by omega)) ?_
                      show K none (vup (vup (vup (vup (vup σ 7 6 (-1)) 7 5 (σ 7 10)) 7 10 ((σ 7 10) + 1)) 7 4 5) 7 6 (cba σ (σ 7 10)))
                      have hbe := hbk (by omega)
                      refine hK _ (cfr_up (cfr_up (cfr_up (cfr_up (cfr_up (h1) (by decide)) (by decide)) (by decide)) (by decide)) (by decide)) (Or.inr (Or.inr ?_))
                      rw [hbe]
                      exact ⟨by omega, rfl, tal_f (by have := hin (by omega); omega) (by have := hin (by omega); omega), rfl, hin (by omega), Or.inl ⟨(by unfold tsg; have := hin (by omega); omega), rfl⟩⟩
        · refine And.intro ⟨⟨(show 0 ≤ σ 7 10 by omega), (show σ 7 10 ≤ 940 by omega), rfl⟩, h8x1⟩ (fun (k20 : Nat) (σ2 : vS) (cc1 : cfr (vup (vup σ 7 6 (-1)) 7 5 (σ 7 10)) σ2) (cc2 : σ2 7 5 = σ 7 10) (cc3 : σ2 7 10 = σ 7 10 + (k20 : Int)) (cc4 : σ 7 10 + (k20 : Int) = tE (fun q => tal (ctx σ q)) (σ 7 1) (σ 7 10)) (cc5 : ctr (ctx σ) (σ 35) (σ 7 10) k20 (σ2 7 4) (σ2 7 6) (σ2 7 7)) => ?_)
          show K none σ2
          have hbe := hbk (by omega)
          have e34 : ctx σ = ctx σ0 := by unfold ctx; rw [h1.1 34 (by decide)]
          have e35 : σ 35 = σ0 35 := h1.1 35 (by decide)
          rw [e34, e35] at cc5
          rw [e34, e1] at cc4
          refine hK σ2 (cfr_tr (cfr_up (cfr_up (h1) (by decide)) (by decide)) cc1) (Or.inr (Or.inl ?_))
          rw [hbe]
          exact ⟨by omega, cc2, tal_iff.mpr (by have := hin (by omega); omega), k20, cc3, cc4, cc5⟩
      · refine And.intro (show Int.negSucc 2147483647 ≤ s ∧ s ≤ 900 from rgm (by omega)) ?_
        have f21 : 0 ≤ σ 7 1 ∧ σ 7 1 ≤ 940 := zfC hb (t := 7) (f := 1) (by decide +kernel)
        have f22 : 0 ≤ σ 7 9 ∧ σ 7 9 ≤ 900 := zfC hb (t := 7) (f := 9) (by decide +kernel)
        refine And.intro (fun (c23 : (σ 7 1) ≤ (σ 7 9)) => ?_) (fun (c24 : (σ 7 9) < (σ 7 1)) => ?_)
        · refine And.intro (show 0 ≤ 0 ∧ 0 ≤ 5 from by omega) ?_
          show K none (vup (vup (vup σ 7 6 (-1)) 7 5 s) 7 4 0)
          exact hK _ (cfr_up (cfr_up (cfr_up (h1) (by decide)) (by decide)) (by decide)) (Or.inl ⟨by have := hbs (by omega); omega, rfl, Or.inr ⟨by omega, rfl⟩⟩)
        · refine And.intro (show 0 ≤ 1 ∧ 1 ≤ 5 from by omega) ?_
          show K none (vup (vup (vup σ 7 6 (-1)) 7 5 s) 7 4 1)
          exact hK _ (cfr_up (cfr_up (cfr_up (h1) (by decide)) (by decide)) (by decide)) (Or.inl ⟨by have := hbs (by omega); omega, rfl, Or.inl ⟨by omega, rfl⟩⟩)
    · refine And.intro (fun (c25 : (cbk (cba σ (σ 7 10))) = 0) => ?_) (fun (c26 : ¬ (cbk (cba σ (σ 7 10))) = 0) => ?_)
      · refine And.intro (show Int.negSucc 2147483647 ≤ (-1) ∧ (-1) ≤ 2147483647 from rgm (by omega)) ?_
        refine And.intro (fun (c27 : (σ 7 10) < s) => ?_) (fun (c28 : s ≤ (σ 7 10)) => ?_)
        · refine And.intro (show Int.negSucc 2147483647 ≤ (σ 7 10) ∧ (σ 7 10) ≤ 900 from rgm (by omega)) ?_
          refine And.intro (fun (c29 : (cgo (cba σ (σ 7 10))) = 0) => ?_) (fun (c30 : ¬ (cgo (cba σ (σ 7 10))) = 0) => ?_)
          · refine And.intro (show -2147483648 ≤ ((σ 7 10) + 1) ∧ ((σ 7 10) + 1) ≤ 2147483647 from by omega) ?_
            refine And.intro (show Int.negSucc 2147483647 ≤ ((σ 7 10) + 1) ∧ ((σ 7 10) + 1) ≤ 2147483647 from rgm (by omega)) ?_
            refine And.intro (fun (c31 : (cba σ (σ 7 10)) = 59) => ?_) (fun (c32 : ¬ (cba σ (σ 7 10)) = 59) => ?_)
            · refine And.intro (fun (q : 1 = 0) => absurd q (by decide)) (fun _ => ?_)
              refine And.intro (show 0 ≤ 5 ∧ 5 ≤ 5 from by omega) ?_
              refine And.intro (show Int.negSucc 2147483647 ≤ (cba σ (σ 7 10)) ∧ (cba σ (σ 7 10)) ≤ 2147483647 from rgm (by omega)) ?_
              show K none (vup (vup (vup (vup (vup σ 7 6 (-1)) 7 5 (σ 7 10)) 7 10 ((σ 7 10) + 1)) 7 4 5) 7 6 (cba σ (σ 7 10)))
              have hbe := hbk (by omega)
              refine hK _ (cfr_up (cfr_up (cfr_up (cfr_up (cfr_up (h1) (by decide)) (by decide)) (by decide)) (by decide)) (by decide)) (Or.inr (Or.inr ?_))
              rw [hbe]
              exact ⟨by omega, rfl, tal_f (by have := hin (by omega); omega) (by have := hin (by omega); omega), rfl, hin (by omega), Or.inl ⟨(by unfold tsg; have := hin (by omega); omega), rfl⟩⟩
            · refine And.intro (fun (c33 : (cba σ (σ 7 10)) = 60) => ?_) (fun (c34 : ¬ (cba σ (σ 7 10)) = 60) => ?_)
              · refine And.intro (fun (q : 1 = 0) => absurd q (by decide)) (fun _ => ?_)
                refine And.intro (show 0 ≤ 5 ∧ 5 ≤ 5 from by omega) ?_
                refine And.intro (show Int.negSucc 2147483647 ≤ (cba σ (σ 7 10)) ∧ (cba σ (σ 7 10)) ≤ 2147483647 from rgm (by omega)) ?_
                show K none (vup (vup (vup (vup (vup σ 7 6 (-1)) 7 5 (σ 7 10)) 7 10 ((σ 7 10) + 1)) 7 4 5) 7 6 (cba σ (σ 7 10)))
                have hbe := hbk (by omega)
                refine hK _ (cfr_up (cfr_up (cfr_up (cfr_up (cfr_up (h1) (by decide)) (by decide)) (by decide)) (by decide)) (by decide)) (Or.inr (Or.inr ?_))
                rw [hbe]
                exact ⟨by omega, rfl, tal_f (by have := hin (by omega); omega) (by have := hin (by omega); omega), rfl, hin (by omega), Or.inl ⟨(by unfold tsg; have := hin (by omega); omega), rfl⟩⟩
              · refine And.intro (fun (c35 : (cba σ (σ 7 10)) = 61) => ?_) (fun (c36 : ¬ (cba σ (σ 7 10)) = 61) => ?_)
                · refine And.intro (fun (q : 1 = 0) => absurd q (by decide)) (fun _ => ?_)
                  refine And.intro (show 0 ≤ 5 ∧ 5 ≤ 5 from by omega) ?_
                  refine And.intro (show Int.negSucc 2147483647 ≤ (cba σ (σ 7 10)) ∧ (cba σ (σ 7 10)) ≤ 2147483647 from rgm (by omega)) ?_
                  show K none (vup (vup (vup (vup (vup σ 7 6 (-1)) 7 5 (σ 7 10)) 7 10 ((σ 7 10) + 1)) 7 4 5) 7 6 (cba σ (σ 7 10)))
                  have hbe := hbk (by omega)
                  refine hK _ (cfr_up (cfr_up (cfr_up (cfr_up (cfr_up (h1) (by decide)) (by decide)) (by decide)) (by decide)) (by decide)) (Or.inr (Or.inr ?_))
                  rw [hbe]
                  exact ⟨by omega, rfl, tal_f (by have := hin (by omega); omega) (by have := hin (by omega); omega), rfl, hin (by omega), Or.inl ⟨(by unfold tsg; have := hin (by omega); omega), rfl⟩⟩
                · refine And.intro (fun (c37 : (cba σ (σ 7 10)) = 62) => ?_) (fun (c38 : ¬ (cba σ (σ 7 10)) = 62) => ?_)
                  · refine And.intro (fun (q : 1 = 0) => absurd q (by decide)) (fun _ => ?_)
                    refine And.intro (show 0 ≤ 5 ∧ 5 ≤ 5 from by omega) ?_
                    refine And.intro (show Int.negSucc 2147483647 ≤ (cba σ (σ 7 10)) ∧ (cba σ (σ 7 10)) ≤ 2147483647 from rgm (by omega)) ?_
                    show K none (vup (vup (vup (vup (vup σ 7 6 (-1)) 7 5 (σ 7 10)) 7 10 ((σ 7 10) + 1)) 7 4 5) 7 6 (cba σ (σ 7 10)))
                    have hbe := hbk (by omega)
                    refine hK _ (cfr_up (cfr_up (cfr_up (cfr_up (cfr_up (h1) (by decide)) (by decide)) (by decide)) (by decide)) (by decide)) (Or.inr (Or.inr ?_))
                    rw [hbe]
                    exact ⟨by omega, rfl, tal_f (by have := hin (by omega); omega) (by have := hin (by omega); omega), rfl, hin (by omega), Or.inl ⟨(by unfold tsg; have := hin (by omega); omega), rfl⟩⟩
                  · refine And.intro (fun (c39 : (cba σ (σ 7 10)) = 40) => ?_) (fun (c40 : ¬ (cba σ (σ 7 10)) = 40) => ?_)
                    · refine And.intro (fun (q : 1 = 0) => absurd q (by decide)) (fun _ => ?_)
                      refine And.intro (show 0 ≤ 5 ∧ 5 ≤ 5 from by omega) ?_
                      refine And.intro (show Int.negSucc 2147483647 ≤ (cba σ (σ 7 10)) ∧ (cba σ (σ 7 10)) ≤ 2147483647 from rgm (by omega)) ?_
                      show K none (vup (vup (vup (vup (vup σ 7 6 (-1)) 7 5 (σ 7 10)) 7 10 ((σ 7 10) + 1)) 7 4 5) 7 6 (cba σ (σ 7 10)))
                      have hbe := hbk (by omega)
                      refine hK _ (cfr_up (cfr_up (cfr_up (cfr_up (cfr_up (h1) (by decide)) (by decide)) (by decide)) (by decide)) (by decide)) (Or.inr (Or.inr ?_))
                      rw [hbe]
                      exact ⟨by omega, rfl, tal_f (by have := hin (by omega); omega) (by have := hin (by omega); omega), rfl, hin (by omega), Or.inl ⟨(by unfold tsg; have := hin (by omega); omega), rfl⟩⟩
                    · refine And.intro (fun (c41 : ¬ (cba σ (σ 7 10)) = 41) => ?_) (fun (c42 : (cba σ (σ 7 10)) = 41) => ?_)
                      · refine And.intro (fun _ => ?_) (fun (q : ¬ 0 = 0) => absurd q (by decide))
                        refine And.intro (show 0 ≤ 1 ∧ 1 ≤ 5 from by omega) ?_
                        refine And.intro (show Int.negSucc 2147483647 ≤ (cba σ (σ 7 10)) ∧ (cba σ (σ 7 10)) ≤ 2147483647 from rgm (by omega)) ?_
                        show K none (vup (vup (vup (vup (vup σ 7 6 (-1)) 7 5 (σ 7 10)) 7 10 ((σ 7 10) + 1)) 7 4 1) 7 6 (cba σ (σ 7 10)))
                        have hbe := hbk (by omega)
                        refine hK _ (cfr_up (cfr_up (cfr_up (cfr_up (cfr_up (h1) (by decide)) (by decide)) (by decide)) (by decide)) (by decide)) (Or.inr (Or.inr ?_))
                        rw [hbe]
                        exact ⟨by omega, rfl, tal_f (by have := hin (by omega); omega) (by have := hin (by omega); omega), rfl, hin (by omega), Or.inr ⟨(by unfold tsg; have := hin (by omega); omega), rfl⟩⟩
                      · refine And.intro (fun (q : 1 = 0) => absurd q (by decide)) (fun _ => ?_)
                        refine And.intro (show 0 ≤ 5 ∧ 5 ≤ 5 from by omega) ?_
                        refine And.intro (show Int.negSucc 2147483647 ≤ (cba σ (σ 7 10)) ∧ (cba σ (σ 7 10)) ≤ 2147483647 from rgm (by omega)) ?_
                        show K none (vup (vup (vup (vup (vup σ 7 6 (-1)) 7 5 (σ 7 10)) 7 10 ((σ 7 10) + 1)) 7 4 5) 7 6 (cba σ (σ 7 10)))
                        have hbe := hbk (by omega)
                        refine hK _ (cfr_up (cfr_up (cfr_up (cfr_up (cfr_up (h1) (by decide)) (by decide)) (by decide)) (by decide)) (by decide)) (Or.inr (Or.inr ?_))
                        rw [hbe]
                        exact ⟨by omega, rfl, tal_f (by have := hin (by omega); omega) (by have := hin (by omega); omega), rfl, hin (by omega), Or.inl ⟨(by unfold tsg; have := hin (by omega); omega), rfl⟩⟩
          · refine And.intro ⟨⟨(show 0 ≤ σ 7 10 by omega), (show σ 7 10 ≤ 940 by omega), rfl⟩, h8x1⟩ (fun (k43 : Nat) (σ2 : vS) (cc1 : cfr (vup (vup σ 7 6 (-1)) 7 5 (σ 7 10)) σ2) (cc2 : σ2 7 5 = σ 7 10) (cc3 : σ2 7 10 = σ 7 10 + (k43 : Int)) (cc4 : σ 7 10 + (k43 : Int) = tE (fun q => tal (ctx σ q)) (σ 7 1) (σ 7 10)) (cc5 : ctr (ctx σ) (σ 35) (σ 7 10) k43 (σ2 7 4) (σ2 7 6) (σ2 7 7)) => ?_)
            show K none σ2
            have hbe := hbk (by omega)
            have e34 : ctx σ = ctx σ0 := by unfold ctx; rw [h1.1 34 (by decide)]
            have e35 : σ 35 = σ0 35 := h1.1 35 (by decide)
            rw [e34, e35] at cc5
            rw [e34, e1] at cc4
            refine hK σ2 (cfr_tr (cfr_up (cfr_up (h1) (by decide)) (by decide)) cc1) (Or.inr (Or.inl ?_))
            rw [hbe]
            exact ⟨by omega, cc2, tal_iff.mpr (by have := hin (by omega); omega), k43, cc3, cc4, cc5⟩
        · refine And.intro (show Int.negSucc 2147483647 ≤ s ∧ s ≤ 900 from rgm (by omega)) ?_
          have f44 : 0 ≤ σ 7 1 ∧ σ 7 1 ≤ 940 := zfC hb (t := 7) (f := 1) (by decide +kernel)
          have f45 : 0 ≤ σ 7 9 ∧ σ 7 9 ≤ 900 := zfC hb (t := 7) (f := 9) (by decide +kernel)
          refine And.intro (fun (c46 : (σ 7 1) ≤ (σ 7 9)) => ?_) (fun (c47 : (σ 7 9) < (σ 7 1)) => ?_)
          · refine And.intro (show 0 ≤ 0 ∧ 0 ≤ 5 from by omega) ?_
            show K none (vup (vup (vup σ 7 6 (-1)) 7 5 s) 7 4 0)
            exact hK _ (cfr_up (cfr_up (cfr_up (h1) (by decide)) (by decide)) (by decide)) (Or.inl ⟨by have := hbs (by omega); omega, rfl, Or.inr ⟨by omega, rfl⟩⟩)
          · refine And.intro (show 0 ≤ 1 ∧ 1 ≤ 5 from by omega) ?_
            show K none (vup (vup (vup σ 7 6 (-1)) 7 5 s) 7 4 1)
            exact hK _ (cfr_up (cfr_up (cfr_up (h1) (by decide)) (by decide)) (by decide)) (Or.inl ⟨by have := hbs (by omega); omega, rfl, Or.inl ⟨by omega, rfl⟩⟩)
      · refine And.intro (show -2147483648 ≤ ((σ 7 10) + 1) ∧ ((σ 7 10) + 1) ≤ 2147483647 from by omega) ?_
        refine And.intro (show Int.negSucc 2147483647 ≤ ((σ 7 10) + 1) ∧ ((σ 7 10) + 1) ≤ 2147483647 from rgm (by omega)) ?_
        show zGC E md72 w gm_60 12 [(0, .inr (.inl 7)), (1, .inl s)] (vup σ 7 10 ((σ 7 10) + 1)) K
        exact hloop _ (by omega) rfl (cfr_up (h1) (by decide)) (by
          show tE (fun q => tbk (ctx σ0 q)) s (σ 7 10 + 1) = b
          rw [← tE_go (P := fun q => tbk (ctx σ0 q)) (by omega) (tbk_iff.mpr (by have := (hin (by omega)); omega))]
          exact hE)
theorem ck_adv (X : zX gKX E) (B : zB E) {σ0 : vS} {b s : Int} (hs : (0 ≤ s ∧ s ≤ 900) ∧ s ≤ σ0 7 1 ∧ s ≤ σ0 7 9 ∧ (s = σ0 7 1 ∨ s = σ0 7 9)) (h8 : ∀ q : Int, 0 ≤ ctx σ0 q ∧ ctx σ0 q ≤ 255) (hK : ∀ σ2 : vS, cfr σ0 σ2 → ctk (ctx σ0) (σ0 35) (σ0 7 1) (σ0 7 9) s b σ2 → K none σ2) : ∀ (m : Nat) (σ : vS), s - σ 7 10 ≤ (m : Int) → cfr σ0 σ → 0 ≤ σ 7 10 → tE (fun q => tbk (ctx σ0 q)) s (σ 7 10) = b → zGC E md72 w gm_60 12 [(0, .inr (.inl 7)), (1, .inl s)] σ K := by
  intro m
  induction m with
  | zero => exact fun σ hm h1 h0 hE => ck_advs X B hs h8 hK h1 h0 hE (fun σ2 q => by omega)
  | succ m ih => exact fun σ hm h1 h0 hE => ck_advs X B hs h8 hK h1 h0 hE (fun σ2 q e h2 hE2 => ih σ2 (by omega) h2 (by omega) (by rw [e]; exact hE2))
end ZC4
