/-! THE REFERENCE READS: skip, the whole. -/
section ZR3
variable {KX : Nat → Nat → Option Int} {E : zE} {w : va_W} {σ : vS} {K : vKL}
theorem r_fin {σ0 σ σ2 : vS} {b al tok : Int} {k : Nat} (ha : tal (rtx σ0 b) = true) (hbn : b < σ0 12 3) (hI : rrn σ0 b (rsm (rtx σ0 b)) k al σ) (hx : tal (rpk σ) = false) (e12 : σ2 12 12 = σ 12 12) (e4 : σ2 12 4 = σ 12 4) (e14 : σ2 12 14 = σ 12 14) (e17 : σ2 12 17 = σ 12 17) (ht : σ2 12 11 = tok) (hd : (tok = 1 ∧ al = 1 ∧ rsm (rtx σ0 b) = 1 ∧ k ≤ 7) ∨ (tok = 2 ∧ al = 1 ∧ rsm (rtx σ0 b) = 0 ∧ k ≤ 2) ∨ (tok = 4 ∧ (al = 0 ∨ (rsm (rtx σ0 b) = 1 ∧ 7 < k) ∨ (rsm (rtx σ0 b) = 0 ∧ 2 < k)))) : σ2 12 12 = b ∧ ∃ k : Nat, 0 < k ∧ σ2 12 4 = b + (k : Int) ∧ b + (k : Int) = tE (fun q => tal (rtx σ0 q)) (σ0 12 3) b ∧ trn (rtx σ0) b k (σ2 12 11) (σ2 12 14) (σ2 12 17) := by
  obtain ⟨h1, h2, h3, h4, h5, h6, h7, h9, h10⟩ := hI
  have hp := rpk_of h1
  rw [h3] at hp
  have hst : ¬ (b + (k : Int) < σ0 12 3 ∧ tal (rtx σ0 (b + (k : Int))) = true) := fun q => by
    rw [if_pos q.1] at hp
    rw [hp, q.2] at hx
    cases hx
  have k0 : 0 < k := by
    cases k with
    | zero =>
      exfalso
      have e : b + ((0 : Nat) : Int) = b := by omega
      rw [e] at hst
      exact hst ⟨hbn, ha⟩
    | succ n => omega
  have hend : b + (k : Int) = tE (fun q => tal (rtx σ0 q)) (σ0 12 3) b := by
    rw [← h10]
    exact (tE_stop (P := fun q => tal (rtx σ0 q)) hst).symm
  have s1 := rsm_iff (c := rtx σ0 b)
  have hal := tal_iff.mp ha
  have e0 : b + ((0 : Nat) : Int) = b := by omega
  refine ⟨by rw [e12, h2], k, k0, by rw [e4, h3], hend, ?_⟩
  rw [ht, e14, e17]
  rcases hd with ⟨rfl, d2, d3, d4⟩ | ⟨rfl, d2, d3, d4⟩ | ⟨rfl, d2⟩
  · rcases h9 with ⟨g1, g2⟩ | ⟨g1, g2⟩
    · exact Or.inl ⟨g2.mp d2, d4, rfl, h5 d4⟩
    · omega
  · rcases h9 with ⟨g1, g2⟩ | ⟨g1, g2⟩
    · omega
    · exact Or.inr (Or.inl ⟨g2.mp d2, d4, rfl, h6 d4⟩)
  · refine Or.inr (Or.inr ⟨fun q => ?_, fun q => ?_, rfl⟩)
    · have q0 := q.1 0 k0
      rw [e0] at q0
      rcases h9 with ⟨g1, g2⟩ | ⟨g1, g2⟩
      · have := g2.mpr q.1
        omega
      · have := s1.1.mp g1
        omega
    · have q0 := q.1 0 k0
      rw [e0] at q0
      rcases h9 with ⟨g1, g2⟩ | ⟨g1, g2⟩
      · have := s1.2.mp g1
        omega
      · have := g2.mpr q.1
        omega
theorem rk_skip (X : zX KX E) (B : zB E) {σ0 : vS} {b : Int} (h8 : ∀ q : Int, 0 ≤ rtx σ0 q ∧ rtx σ0 q ≤ 255) (hK : ∀ σ2 : vS, rfr σ0 σ2 → rtk (rtx σ0) (σ0 12 3) (σ0 12 5) b σ2 → K none σ2) : ∀ (m : Nat) (σ : vS), 940 - σ 12 4 < (m : Int) → rfr σ0 σ → tE (fun q => tbk (rtx σ0 q)) (σ0 12 3) (σ 12 4) = b → zGL E gJ1 mdT w gm_271 0 [(0, .inr (.inl 12))] σ K := by
  intro m
  induction m with
  | zero =>
    intro σ hm h1 hE
    refine zbdL (fun hb => ?_)
    have f : 0 ≤ σ 12 4 ∧ σ 12 4 ≤ 940 := zfL B hb (t := 12) (f := 4) (by decide +kernel)
    omega
  | succ m ih =>
    intro σ hm h1 hE
    refine zbdL (fun hb => ?_)
    have s1 := rsm_iff (c := rpk σ)
    have s2 := rdg_iff (c := rpk σ)
    have hp := rpk_of h1
    have n3 : 0 ≤ σ 12 3 ∧ σ 12 3 ≤ 940 := zfL B hb (t := 12) (f := 3) (by decide +kernel)
    have n4 : 0 ≤ σ 12 4 ∧ σ 12 4 ≤ 940 := zfL B hb (t := 12) (f := 4) (by decide +kernel)
    have e3 : σ 12 3 = σ0 12 3 := h1.2 3 (by decide) (by decide) (by decide) (by decide) (by decide) (by decide)
    have e5 : σ 12 5 = σ0 12 5 := h1.2 5 (by decide) (by decide) (by decide) (by decide) (by decide) (by decide)
    have hlt : 0 ≤ rpk σ → σ 12 4 < σ0 12 3 := fun q => by
      by_cases c : σ 12 4 < σ0 12 3
      · exact c
      · rw [if_neg c] at hp
        omega
    have hge : rpk σ < 0 → σ0 12 3 ≤ σ 12 4 := fun q => by
      by_cases c : σ 12 4 < σ0 12 3
      · rw [if_pos c] at hp
        have := h8 (σ 12 4)
        omega
      · omega
    have hpp : 0 ≤ rpk σ → rpk σ = rtx σ0 (σ 12 4) := fun q => by
      rw [if_pos (hlt q)] at hp
      exact hp
    have hq : -1 ≤ rpk σ ∧ rpk σ ≤ 255 := by
      by_cases c : σ 12 4 < σ0 12 3
      · rw [if_pos c] at hp
        have := h8 (σ 12 4)
        omega
      · rw [if_neg c] at hp
        omega
    have hbk : ¬ rpk σ = 32 → ¬ rpk σ = 10 → b = σ 12 4 := fun q1 q2 => by
      rw [← hE]
      refine tE_stop (P := fun q => tbk (rtx σ0 q)) (fun q => ?_)
      have q4 := tbk_iff.mp q.2
      rw [if_pos q.1] at hp
      rw [hp] at q1 q2
      omega
    have rsm0 : (rsm (rtx σ0 (σ 12 4)) = 1 ∧ ((1 : Int) = 1 ↔ tls (rtx σ0) (σ 12 4) 0)) ∨ (rsm (rtx σ0 (σ 12 4)) = 0 ∧ ((1 : Int) = 1 ↔ tds (rtx σ0) (σ 12 4) 0)) := by
      have z1 : tls (rtx σ0) (σ 12 4) 0 := fun j hj => absurd hj (Nat.not_lt_zero j)
      have z2 : tds (rtx σ0) (σ 12 4) 0 := fun j hj => absurd hj (Nat.not_lt_zero j)
      rcases rsm_01 (c := rtx σ0 (σ 12 4)) with q | q
      · exact Or.inr ⟨q, fun _ => z2, fun _ => rfl⟩
      · exact Or.inl ⟨q, fun _ => z1, fun _ => rfl⟩
    refine zgoL X B (rS_ok X B) [] [(0, [0]), (181, [0, 2, 3])] (fun m => Nat.beq m.2.2.2.2.1 120) (by decide +kernel) ?_
    refine And.intro (fun (c1 : (rpk σ) = 32) => ?_) (fun (c2 : ¬ (rpk σ) = 32) => ?_)
    · have f3 : 0 ≤ σ 12 4 ∧ σ 12 4 ≤ 940 := zfL B hb (t := 12) (f := 4) (by decide +kernel)
      refine And.intro (show -2147483648 ≤ ((σ 12 4) + 1) ∧ ((σ 12 4) + 1) ≤ 2147483647 from by omega) ?_
      refine And.intro (show 0 ≤ ((σ 12 4) + 1) ∧ ((σ 12 4) + 1) ≤ 940 from by omega) ?_
      show zGL E gJ1 mdT w gm_271 0 [(0, .inr (.inl 12))] (vup σ 12 4 ((σ 12 4) + 1)) K
      exact ih _ (by show 940 - (σ 12 4 + 1) < (m : Int); omega) (rfr_up (h1) (by decide)) (by
        show tE (fun q => tbk (rtx σ0 q)) (σ0 12 3) (σ 12 4 + 1) = b
        rw [← tE_go (P := fun q => tbk (rtx σ0 q)) (hlt (by omega)) (tbk_iff.mpr (by rw [← hpp (by omega)]; omega))]
        exact hE)
    · refine And.intro (fun (c4 : ¬ (rpk σ) = 10) => ?_) (fun (c5 : (rpk σ) = 10) => ?_)
      · have f6 : 0 ≤ σ 12 4 ∧ σ 12 4 ≤ 940 := zfL B hb (t := 12) (f := 4) (by decide +kernel)
        refine And.intro (show 0 ≤ (σ 12 4) ∧ (σ 12 4) ≤ 940 from by omega) ?_
        refine And.intro (show Int.negSucc 2147483647 ≤ 0 ∧ 0 ≤ 2147483647 from rgm (by omega)) ?_
        have f7 : 0 ≤ σ 12 3 ∧ σ 12 3 ≤ 940 := zfL B hb (t := 12) (f := 3) (by decide +kernel)
        have f8 : 0 ≤ σ 12 5 ∧ σ 12 5 ≤ 940 := zfL B hb (t := 12) (f := 5) (by decide +kernel)
        refine And.intro (fun (c9 : (σ 12 3) ≤ (σ 12 5)) => ?_) (fun (c10 : (σ 12 5) < (σ 12 3)) => ?_)
        · refine And.intro (fun (c11 : 0 ≤ (rpk σ)) => ?_) (fun (c12 : (rpk σ) < 0) => ?_)
          · refine And.intro (fun (c13 : ¬ (rsm (rpk σ)) = 0) => ?_) (fun (c14 : (rsm (rpk σ)) = 0) => ?_)
            · refine And.intro (show Int.negSucc 2147483647 ≤ 0 ∧ 0 ≤ 2147483647 from rgm (by omega)) ?_
              have hbe := hbk (by omega) (by omega)
              have hta : tal (rtx σ0 (σ 12 4)) = true := tal_iff.mpr (by rw [← hpp (by omega)]; omega)
              show zGL E gJ1 mdT w gm_271 181 [(0, .inr (.inl 12)), (2, .inl (rsm (rpk σ))), (3, .inl 1)] (vup (vup (vup (vup σ 12 12 (σ 12 4)) 12 13 0) 12 17 0) 12 14 0) K
              rw [hpp (by omega)]
              exact rk_run (b := σ 12 4) X B h8 rsm_01 (by omega) (fun k al σ2 σ3 hI hx hr e12 e4 e14 e17 tok ht hd => hK σ2 hr (Or.inr (Or.inr (Or.inr ⟨by omega, by have := hlt (by omega); omega, by rw [hbe]; exact hta, by rw [hbe]; exact r_fin hta (hlt (by omega)) hI hx e12 e4 e14 e17 ht hd⟩)))) 941 0 1 _ (by omega) ⟨rfr_up (rfr_up (rfr_up (rfr_up (h1) (by decide)) (by decide)) (by decide)) (by decide), rfl, (show σ 12 4 = σ 12 4 + ((0 : Nat) : Int) by omega), rfl, fun _ => rfl, fun _ => rfl, Or.inr rfl, rsm0, (by rw [show σ 12 4 + ((0 : Nat) : Int) = σ 12 4 by omega])⟩
            · refine And.intro (fun (c15 : ¬ (rdg (rpk σ)) = 0) => ?_) (fun (c16 : (rdg (rpk σ)) = 0) => ?_)
              · refine And.intro (show Int.negSucc 2147483647 ≤ 0 ∧ 0 ≤ 2147483647 from rgm (by omega)) ?_
                have hbe := hbk (by omega) (by omega)
                have hta : tal (rtx σ0 (σ 12 4)) = true := tal_iff.mpr (by rw [← hpp (by omega)]; omega)
                show zGL E gJ1 mdT w gm_271 181 [(0, .inr (.inl 12)), (2, .inl (rsm (rpk σ))), (3, .inl 1)] (vup (vup (vup (vup σ 12 12 (σ 12 4)) 12 13 0) 12 17 0) 12 14 0) K
                rw [hpp (by omega)]
                exact rk_run (b := σ 12 4) X B h8 rsm_01 (by omega) (fun k al σ2 σ3 hI hx hr e12 e4 e14 e17 tok ht hd => hK σ2 hr (Or.inr (Or.inr (Or.inr ⟨by omega, by have := hlt (by omega); omega, by rw [hbe]; exact hta, by rw [hbe]; exact r_fin hta (hlt (by omega)) hI hx e12 e4 e14 e17 ht hd⟩)))) 941 0 1 _ (by omega) ⟨rfr_up (rfr_up (rfr_up (rfr_up (h1) (by decide)) (by decide)) (by decide)) (by decide), rfl, (show σ 12 4 = σ 12 4 + ((0 : Nat) : Int) by omega), rfl, fun _ => rfl, fun _ => rfl, Or.inr rfl, rsm0, (by rw [show σ 12 4 + ((0 : Nat) : Int) = σ 12 4 by omega])⟩
              · refine And.intro (fun (c17 : (rpk σ) = 59) => ?_) (fun (c18 : ¬ (rpk σ) = 59) => ?_)
                · refine And.intro (show 0 ≤ 3 ∧ 3 ≤ 4 from by omega) ?_
                  refine And.intro (show Int.negSucc 2147483647 ≤ (rpk σ) ∧ (rpk σ) ≤ 2147483647 from rgm (by omega)) ?_
                  refine And.intro (show -2147483648 ≤ ((σ 12 4) + 1) ∧ ((σ 12 4) + 1) ≤ 2147483647 from by omega) ?_
                  refine And.intro (show 0 ≤ ((σ 12 4) + 1) ∧ ((σ 12 4) + 1) ≤ 940 from by omega) ?_
                  have hbe := hbk (by omega) (by omega)
                  show K none (vup (vup (vup (vup (vup σ 12 12 (σ 12 4)) 12 13 0) 12 11 3) 12 14 (rpk σ)) 12 4 ((σ 12 4) + 1))
                  refine hK _ (rfr_up (rfr_up (rfr_up (rfr_up (rfr_up (h1) (by decide)) (by decide)) (by decide)) (by decide)) (by decide)) ?_
                  rw [hbe]
                  exact Or.inr (Or.inr (Or.inl ⟨by omega, hlt (by omega), tal_f (by rw [← hpp (by omega)]; omega) (by rw [← hpp (by omega)]; omega), rfl, rfl, hpp (by omega), Or.inl ⟨(by unfold tsg; rw [← hpp (by omega)]; omega), rfl⟩⟩))
                · refine And.intro (fun (c19 : (rpk σ) = 40) => ?_) (fun (c20 : ¬ (rpk σ) = 40) => ?_)
                  · refine And.intro (show 0 ≤ 3 ∧ 3 ≤ 4 from by omega) ?_
                    refine And.intro (show Int.negSucc 2147483647 ≤ (rpk σ) ∧ (rpk σ) ≤ 2147483647 from rgm (by omega)) ?_
                    refine And.intro (show -2147483648 ≤ ((σ 12 4) + 1) ∧ ((σ 12 4) + 1) ≤ 2147483647 from by omega) ?_
                    refine And.intro (show 0 ≤ ((σ 12 4) + 1) ∧ ((σ 12 4) + 1) ≤ 940 from by omega) ?_
                    have hbe := hbk (by omega) (by omega)
                    show K none (vup (vup (vup (vup (vup σ 12 12 (σ 12 4)) 12 13 0) 12 11 3) 12 14 (rpk σ)) 12 4 ((σ 12 4) + 1))
                    refine hK _ (rfr_up (rfr_up (rfr_up (rfr_up (rfr_up (h1) (by decide)) (by decide)) (by decide)) (by decide)) (by decide)) ?_
                    rw [hbe]
                    exact Or.inr (Or.inr (Or.inl ⟨by omega, hlt (by omega), tal_f (by rw [← hpp (by omega)]; omega) (by rw [← hpp (by omega)]; omega), rfl, rfl, hpp (by omega), Or.inl ⟨(by unfold tsg; rw [← hpp (by omega)]; omega), rfl⟩⟩))
                  · refine And.intro (fun (c21 : (rpk σ) = 41) => ?_) (fun (c22 : ¬ (rpk σ) = 41) => ?_)
                    · refine And.intro (show 0 ≤ 3 ∧ 3 ≤ 4 from by omega) ?_
                      refine And.intro (show Int.negSucc 2147483647 ≤ (rpk σ) ∧ (rpk σ) ≤ 2147483647 from rgm (by omega)) ?_
                      refine And.intro (show -2147483648 ≤ ((σ 12 4) + 1) ∧ ((σ 12 4) + 1) ≤ 2147483647 from by omega) ?_
                      refine And.intro (show 0 ≤ ((σ 12 4) + 1) ∧ ((σ 12 4) + 1) ≤ 940 from by omega) ?_
                      have hbe := hbk (by omega) (by omega)
                      show K none (vup (vup (vup (vup (vup σ 12 12 (σ 12 4)) 12 13 0) 12 11 3) 12 14 (rpk σ)) 12 4 ((σ 12 4) + 1))
                      refine hK _ (rfr_up (rfr_up (rfr_up (rfr_up (rfr_up (h1) (by decide)) (by decide)) (by decide)) (by decide)) (by decide)) ?_
                      rw [hbe]
                      exact Or.inr (Or.inr (Or.inl ⟨by omega, hlt (by omega), tal_f (by rw [← hpp (by omega)]; omega) (by rw [← hpp (by omega)]; omega), rfl, rfl, hpp (by omega), Or.inl ⟨(by unfold tsg; rw [← hpp (by omega)]; omega), rfl⟩⟩))
                    · refine And.intro (fun (c23 : (rpk σ) < 60) => ?_) (fun (c24 : 60 ≤ (rpk σ)) => ?_)
                      · refine And.intro (show 0 ≤ 4 ∧ 4 ≤ 4 from by omega) ?_
                        refine And.intro (show Int.negSucc 2147483647 ≤ (rpk σ) ∧ (rpk σ) ≤ 2147483647 from rgm (by omega)) ?_
                        refine And.intro (show -2147483648 ≤ ((σ 12 4) + 1) ∧ ((σ 12 4) + 1) ≤ 2147483647 from by omega) ?_
                        refine And.intro (show 0 ≤ ((σ 12 4) + 1) ∧ ((σ 12 4) + 1) ≤ 940 from by omega) ?_
                        have hbe := hbk (by omega) (by omega)
                        show K none (vup (vup (vup (vup (vup σ 12 12 (σ 12 4)) 12 13 0) 12 11 4) 12 14 (rpk σ)) 12 4 ((σ 12 4) + 1))
                        refine hK _ (rfr_up (rfr_up (rfr_up (rfr_up (rfr_up (h1) (by decide)) (by decide)) (by decide)) (by decide)) (by decide)) ?_
                        rw [hbe]
                        exact Or.inr (Or.inr (Or.inl ⟨by omega, hlt (by omega), tal_f (by rw [← hpp (by omega)]; omega) (by rw [← hpp (by omega)]; omega), rfl, rfl, hpp (by omega), Or.inr ⟨(by unfold tsg; rw [← hpp (by omega)]; omega), rfl⟩⟩))
                      · refine And.intro (fun (c25 : 62 < (rpk σ)) => ?_) (fun (c26 : (rpk σ) ≤ 62) => ?_)
                        · refine And.intro (show 0 ≤ 4 ∧ 4 ≤ 4 from by omega) ?_
                          refine And.intro (show Int.negSucc 2147483647 ≤ (rpk σ) ∧ (rpk σ) ≤ 2147483647 from rgm (by omega)) ?_
                          refine And.intro (show -2147483648 ≤ ((σ 12 4) + 1) ∧ ((σ 12 4) + 1) ≤ 2147483647 from by omega) ?_
                          refine And.intro (show 0 ≤ ((σ 12 4) + 1) ∧ ((σ 12 4) + 1) ≤ 940 from by omega) ?_
                          have hbe := hbk (by omega) (by omega)
                          show K none (vup (vup (vup (vup (vup σ 12 12 (σ 12 4)) 12 13 0) 12 11 4) 12 14 (rpk σ)) 12 4 ((σ 12 4) + 1))
                          refine hK _ (rfr_up (rfr_up (rfr_up (rfr_up (rfr_up (h1) (by decide)) (by decide)) (by decide)) (by decide)) (by decide)) ?_
                          rw [hbe]
                          exact Or.inr (Or.inr (Or.inl ⟨by omega, hlt (by omega), tal_f (by rw [← hpp (by omega)]; omega) (by rw [← hpp (by omega)]; omega), rfl, rfl, hpp (by omega), Or.inr ⟨(by unfold tsg; rw [← hpp (by omega)]; omega), rfl⟩⟩))
                        · refine And.intro (show 0 ≤ 3 ∧ 3 ≤ 4 from by omega) ?_
                          refine And.intro (show Int.negSucc 2147483647 ≤ (rpk σ) ∧ (rpk σ) ≤ 2147483647 from rgm (by omega)) ?_
                          refine And.intro (show -2147483648 ≤ ((σ 12 4) + 1) ∧ ((σ 12 4) + 1) ≤ 2147483647 from by omega) ?_
                          refine And.intro (show 0 ≤ ((σ 12 4) + 1) ∧ ((σ 12 4) + 1) ≤ 940 from by omega) ?_
                          have hbe := hbk (by omega) (by omega)
                          show K none (vup (vup (vup (vup (vup σ 12 12 (σ 12 4)) 12 13 0) 12 11 3) 12 14 (rpk σ)) 12 4 ((σ 12 4) + 1))
                          refine hK _ (rfr_up (rfr_up (rfr_up (rfr_up (rfr_up (h1) (by decide)) (by decide)) (by decide)) (by decide)) (by decide)) ?_
                          rw [hbe]
                          exact Or.inr (Or.inr (Or.inl ⟨by omega, hlt (by omega), tal_f (by rw [← hpp (by omega)]; omega) (by rw [← hpp (by omega)]; omega), rfl, rfl, hpp (by omega), Or.inl ⟨(by unfold tsg; rw [← hpp (by omega)]; omega), rfl⟩⟩))
          · refine And.intro (show 0 ≤ 0 ∧ 0 ≤ 4 from by omega) ?_
            have hbe := hbk (by omega) (by omega)
            show K none (vup (vup (vup σ 12 12 (σ 12 4)) 12 13 0) 12 11 0)
            refine hK _ (rfr_up (rfr_up (rfr_up (h1) (by decide)) (by decide)) (by decide)) ?_
            exact Or.inr (Or.inl ⟨by omega, by omega, (show σ 12 4 = b by omega), rfl, (show σ 12 4 = b by omega)⟩)
        · refine And.intro (fun (c27 : (σ 12 4) < (σ 12 5)) => ?_) (fun (c28 : (σ 12 5) ≤ (σ 12 4)) => ?_)
          · refine And.intro (fun (c29 : 0 ≤ (rpk σ)) => ?_) (fun (c30 : (rpk σ) < 0) => ?_)
            · refine And.intro (fun (c31 : ¬ (rsm (rpk σ)) = 0) => ?_) (fun (c32 : (rsm (rpk σ)) = 0) => ?_)
              · refine And.intro (show Int.negSucc 2147483647 ≤ 0 ∧ 0 ≤ 2147483647 from rgm (by omega)) ?_
                have hbe := hbk (by omega) (by omega)
                have hta : tal (rtx σ0 (σ 12 4)) = true := tal_iff.mpr (by rw [← hpp (by omega)]; omega)
                show zGL E gJ1 mdT w gm_271 181 [(0, .inr (.inl 12)), (2, .inl (rsm (rpk σ))), (3, .inl 1)] (vup (vup (vup (vup σ 12 12 (σ 12 4)) 12 13 0) 12 17 0) 12 14 0) K
                rw [hpp (by omega)]
                exact rk_run (b := σ 12 4) X B h8 rsm_01 (by omega) (fun k al σ2 σ3 hI hx hr e12 e4 e14 e17 tok ht hd => hK σ2 hr (Or.inr (Or.inr (Or.inr ⟨by omega, by have := hlt (by omega); omega, by rw [hbe]; exact hta, by rw [hbe]; exact r_fin hta (hlt (by omega)) hI hx e12 e4 e14 e17 ht hd⟩)))) 941 0 1 _ (by omega) ⟨rfr_up (rfr_up (rfr_up (rfr_up (h1) (by decide)) (by decide)) (by decide)) (by decide), rfl, (show σ 12 4 = σ 12 4 + ((0 : Nat) : Int) by omega), rfl, fun _ => rfl, fun _ => rfl, Or.inr rfl, rsm0, (by rw [show σ 12 4 + ((0 : Nat) : Int) = σ 12 4 by omega])⟩
              · refine And.intro (fun (c33 : ¬ (rdg (rpk σ)) = 0) => ?_) (fun (c34 : (rdg (rpk σ)) = 0) => ?_)
                · refine And.intro (show Int.negSucc 2147483647 ≤ 0 ∧ 0 ≤ 2147483647 from rgm (by omega)) ?_
                  have hbe := hbk (by omega) (by omega)
                  have hta : tal (rtx σ0 (σ 12 4)) = true := tal_iff.mpr (by rw [← hpp (by omega)]; omega)
                  show zGL E gJ1 mdT w gm_271 181 [(0, .inr (.inl 12)), (2, .inl (rsm (rpk σ))), (3, .inl 1)] (vup (vup (vup (vup σ 12 12 (σ 12 4)) 12 13 0) 12 17 0) 12 14 0) K
                  rw [hpp (by omega)]
                  exact rk_run (b := σ 12 4) X B h8 rsm_01 (by omega) (fun k al σ2 σ3 hI hx hr e12 e4 e14 e17 tok ht hd => hK σ2 hr (Or.inr (Or.inr (Or.inr ⟨by omega, by have := hlt (by omega); omega, by rw [hbe]; exact hta, by rw [hbe]; exact r_fin hta (hlt (by omega)) hI hx e12 e4 e14 e17 ht hd⟩)))) 941 0 1 _ (by omega) ⟨rfr_up (rfr_up (rfr_up (rfr_up (h1) (by decide)) (by decide)) (by decide)) (by decide), rfl, (show σ 12 4 = σ 12 4 + ((0 : Nat) : Int) by omega), rfl, fun _ => rfl, fun _ => rfl, Or.inr rfl, rsm0, (by rw [show σ 12 4 + ((0 : Nat) : Int) = σ 12 4 by omega])⟩
                · refine And.intro (fun (c35 : (rpk σ) = 59) => ?_) (fun (c36 : ¬ (rpk σ) = 59) => ?_)
                  · refine And.intro (show 0 ≤ 3 ∧ 3 ≤ 4 from by omega) ?_
                    refine And.intro (show Int.negSucc 2147483647 ≤ (rpk σ) ∧ (rpk σ) ≤ 2147483647 from rgm (by omega)) ?_
                    refine And.intro (show -2147483648 ≤ ((σ 12 4) + 1) ∧ ((σ 12 4) + 1) ≤ 2147483647 from by omega) ?_
                    refine And.intro (show 0 ≤ ((σ 12 4) + 1) ∧ ((σ 12 4) + 1) ≤ 940 from by omega) ?_
                    have hbe := hbk (by omega) (by omega)
                    show K none (vup (vup (vup (vup (vup σ 12 12 (σ 12 4)) 12 13 0) 12 11 3) 12 14 (rpk σ)) 12 4 ((σ 12 4) + 1))
                    refine hK _ (rfr_up (rfr_up (rfr_up (rfr_up (rfr_up (h1) (by decide)) (by decide)) (by decide)) (by decide)) (by decide)) ?_
                    rw [hbe]
                    exact Or.inr (Or.inr (Or.inl ⟨by omega, hlt (by omega), tal_f (by rw [← hpp (by omega)]; omega) (by rw [← hpp (by omega)]; omega), rfl, rfl, hpp (by omega), Or.inl ⟨(by unfold tsg; rw [← hpp (by omega)]; omega), rfl⟩⟩))
                  · refine And.intro (fun (c37 : (rpk σ) = 40) => ?_) (fun (c38 : ¬ (rpk σ) = 40) => ?_)
                    · refine And.intro (show 0 ≤ 3 ∧ 3 ≤ 4 from by omega) ?_
                      refine And.intro (show Int.negSucc 2147483647 ≤ (rpk σ) ∧ (rpk σ) ≤ 2147483647 from rgm (by omega)) ?_
                      refine And.intro (show -2147483648 ≤ ((σ 12 4) + 1) ∧ ((σ 12 4) + 1) ≤ 2147483647 from by omega) ?_
                      refine And.intro (show 0 ≤ ((σ 12 4) + 1) ∧ ((σ 12 4) + 1) ≤ 940 from by omega) ?_
                      have hbe := hbk (by omega) (by omega)
                      show K none (vup (vup (vup (vup (vup σ 12 12 (σ 12 4)) 12 13 0) 12 11 3) 12 14 (rpk σ)) 12 4 ((σ 12 4) + 1))
                      refine hK _ (rfr_up (rfr_up (rfr_up (rfr_up (rfr_up (h1) (by decide)) (by decide)) (by decide)) (by decide)) (by decide)) ?_
                      rw [hbe]
                      exact Or.inr (Or.inr (Or.inl ⟨by omega, hlt (by omega), tal_f (by rw [← hpp (by omega)]; omega) (by rw [← hpp (by omega)]; omega), rfl, rfl, hpp (by omega), Or.inl ⟨(by unfold tsg; rw [← hpp (by omega)]; omega), rfl⟩⟩))
                    · refine And.intro (fun (c39 : (rpk σ) = 41) => ?_) (fun (c40 : ¬ (rpk σ) = 41) => ?_)
                      · refine And.intro (show 0 ≤ 3 ∧ 3 ≤ 4 from by omega) ?_
                        refine And.intro (show Int.negSucc 2147483647 ≤ (rpk σ) ∧ (rpk σ) ≤ 2147483647 from rgm (by omega)) ?_
                        refine And.intro (show -2147483648 ≤ ((σ 12 4) + 1) ∧ ((σ 12 4) + 1) ≤ 2147483647 from by omega) ?_
                        refine And.intro (show 0 ≤ ((σ 12 4) + 1) ∧ ((σ 12 4) + 1) ≤ 940 from by omega) ?_
                        have hbe := hbk (by omega) (by omega)
                        show K none (vup (vup (vup (vup (vup σ 12 12 (σ 12 4)) 12 13 0) 12 11 3) 12 14 (rpk σ)) 12 4 ((σ 12 4) + 1))
                        refine hK _ (rfr_up (rfr_up (rfr_up (rfr_up (rfr_up (h1) (by decide)) (by decide)) (by decide)) (by decide)) (by decide)) ?_
                        rw [hbe]
                        exact Or.inr (Or.inr (Or.inl ⟨by omega, hlt (by omega), tal_f (by rw [← hpp (by omega)]; omega) (by rw [← hpp (by omega)]; omega), rfl, rfl, hpp (by omega), Or.inl ⟨(by unfold tsg; rw [← hpp (by omega)]; omega), rfl⟩⟩))
                      · refine And.intro (fun (c41 : (rpk σ) < 60) => ?_) (fun (c42 : 60 ≤ (rpk σ)) => ?_)
                        · refine And.intro (show 0 ≤ 4 ∧ 4 ≤ 4 from by omega) ?_
                          refine And.intro (show Int.negSucc 2147483647 ≤ (rpk σ) ∧ (rpk σ) ≤ 2147483647 from rgm (by omega)) ?_
                          refine And.intro (show -2147483648 ≤ ((σ 12 4) + 1) ∧ ((σ 12 4) + 1) ≤ 2147483647 from by omega) ?_
                          refine And.intro (show 0 ≤ ((σ 12 4) + 1) ∧ ((σ 12 4) + 1) ≤ 940 from by omega) ?_
                          have hbe := hbk (by omega) (by omega)
                          show K none (vup (vup (vup (vup (vup σ 12 12 (σ 12 4)) 12 13 0) 12 11 4) 12 14 (rpk σ)) 12 4 ((σ 12 4) + 1))
                          refine hK _ (rfr_up (rfr_up (rfr_up (rfr_up (rfr_up (h1) (by decide)) (by decide)) (by decide)) (by decide)) (by decide)) ?_
                          rw [hbe]
                          exact Or.inr (Or.inr (Or.inl ⟨by omega, hlt (by omega), tal_f (by rw [← hpp (by omega)]; omega) (by rw [← hpp (by omega)]; omega), rfl, rfl, hpp (by omega), Or.inr ⟨(by unfold tsg; rw [← hpp (by omega)]; omega), rfl⟩⟩))
                        · refine And.intro (fun (c43 : 62 < (rpk σ)) => ?_) (fun (c44 : (rpk σ) ≤ 62) => ?_)
                          · refine And.intro (show 0 ≤ 4 ∧ 4 ≤ 4 from by omega) ?_
                            refine And.intro (show Int.negSucc 2147483647 ≤ (rpk σ) ∧ (rpk σ) ≤ 2147483647 from rgm (by omega)) ?_
                            refine And.intro (show -2147483648 ≤ ((σ 12 4) + 1) ∧ ((σ 12 4) + 1) ≤ 2147483647 from by omega) ?_
                            refine And.intro (show 0 ≤ ((σ 12 4) + 1) ∧ ((σ 12 4) + 1) ≤ 940 from by omega) ?_
                            have hbe := hbk (by omega) (by omega)
                            show K none (vup (vup (vup (vup (vup σ 12 12 (σ 12 4)) 12 13 0) 12 11 4) 12 14 (rpk σ)) 12 4 ((σ 12 4) + 1))
                            refine hK _ (rfr_up (rfr_up (rfr_up (rfr_up (rfr_up (h1) (by decide)) (by decide)) (by decide)) (by decide)) (by decide)) ?_
                            rw [hbe]
                            exact Or.inr (Or.inr (Or.inl ⟨by omega, hlt (by omega), tal_f (by rw [← hpp (by omega)]; omega) (by rw [← hpp (by omega)]; omega), rfl, rfl, hpp (by omega), Or.inr ⟨(by unfold tsg; rw [← hpp (by omega)]; omega), rfl⟩⟩))
                          · refine And.intro (show 0 ≤ 3 ∧ 3 ≤ 4 from by omega) ?_
                            refine And.intro (show Int.negSucc 2147483647 ≤ (rpk σ) ∧ (rpk σ) ≤ 2147483647 from rgm (by omega)) ?_
                            refine And.intro (show -2147483648 ≤ ((σ 12 4) + 1) ∧ ((σ 12 4) + 1) ≤ 2147483647 from by omega) ?_
                            refine And.intro (show 0 ≤ ((σ 12 4) + 1) ∧ ((σ 12 4) + 1) ≤ 940 from by omega) ?_
                            have hbe := hbk (by omega) (by omega)
                            show K none (vup (vup (vup (vup (vup σ 12 12 (σ 12 4)) 12 13 0) 12 11 3) 12 14 (rpk σ)) 12 4 ((σ 12 4) + 1))
                            refine hK _ (rfr_up (rfr_up (rfr_up (rfr_up (rfr_up (h1) (by decide)) (by decide)) (by decide)) (by decide)) (by decide)) ?_
                            rw [hbe]
                            exact Or.inr (Or.inr (Or.inl ⟨by omega, hlt (by omega), tal_f (by rw [← hpp (by omega)]; omega) (by rw [← hpp (by omega)]; omega), rfl, rfl, hpp (by omega), Or.inl ⟨(by unfold tsg; rw [← hpp (by omega)]; omega), rfl⟩⟩))
            · refine And.intro (show 0 ≤ 0 ∧ 0 ≤ 4 from by omega) ?_
              have hbe := hbk (by omega) (by omega)
              show K none (vup (vup (vup σ 12 12 (σ 12 4)) 12 13 0) 12 11 0)
              refine hK _ (rfr_up (rfr_up (rfr_up (h1) (by decide)) (by decide)) (by decide)) ?_
              exact Or.inr (Or.inl ⟨by omega, by omega, (show σ 12 4 = b by omega), rfl, (show σ 12 4 = b by omega)⟩)
          · refine And.intro (show 0 ≤ (σ 12 5) ∧ (σ 12 5) ≤ 940 from by omega) ?_
            refine And.intro (show 0 ≤ 4 ∧ 4 ≤ 4 from by omega) ?_
            have hbe := hbk (by omega) (by omega)
            show K none (vup (vup (vup (vup σ 12 12 (σ 12 4)) 12 13 0) 12 12 (σ 12 5)) 12 11 4)
            refine hK _ (rfr_up (rfr_up (rfr_up (rfr_up (h1) (by decide)) (by decide)) (by decide)) (by decide)) ?_
            exact Or.inl ⟨by omega, by omega, (show σ 12 5 = σ0 12 5 by omega), rfl⟩
      · have f45 : 0 ≤ σ 12 4 ∧ σ 12 4 ≤ 940 := zfL B hb (t := 12) (f := 4) (by decide +kernel)
        refine And.intro (show -2147483648 ≤ ((σ 12 4) + 1) ∧ ((σ 12 4) + 1) ≤ 2147483647 from by omega) ?_
        refine And.intro (show 0 ≤ ((σ 12 4) + 1) ∧ ((σ 12 4) + 1) ≤ 940 from by omega) ?_
        show zGL E gJ1 mdT w gm_271 0 [(0, .inr (.inl 12))] (vup σ 12 4 ((σ 12 4) + 1)) K
        exact ih _ (by show 940 - (σ 12 4 + 1) < (m : Int); omega) (rfr_up (h1) (by decide)) (by
          show tE (fun q => tbk (rtx σ0 q)) (σ0 12 3) (σ 12 4 + 1) = b
          rw [← tE_go (P := fun q => tbk (rtx σ0 q)) (hlt (by omega)) (tbk_iff.mpr (by rw [← hpp (by omega)]; omega))]
          exact hE)
end ZR3
