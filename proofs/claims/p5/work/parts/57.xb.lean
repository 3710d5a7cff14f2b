/-! THE REFERENCE READS A BOOK: bookLine -/
noncomputable section
def us185 : vSpL := fun vs σ K => match vs with
  | [.inr (.inl 12)] => ∃ (x : qX) (p : Int), rT x p σ ∧ ((0 ≤ σ 12 42 ∧ σ 12 42 ≤ 40) ∧ (0 ≤ σ 52 1 ∧ σ 52 1 ≤ 6) ∧ 0 ≤ σ 52 2 ∧ σ 52 2 ≤ 12) ∧ (¬ (qLn x (σ 55) (σ 52 1) (σ 52 2) (σ 12 42) p).1 = 0 → ∀ σ2 : vS, rFl x (qLn x (σ 55) (σ 52 1) (σ 52 2) (σ 12 42) p).1 (qLn x (σ 55) (σ 52 1) (σ 52 2) (σ 12 42) p).2 σ2 → σ2 12 42 = σ 12 42 → σ2 52 = σ 52 → σ2 55 = σ 55 → K (some (.inl 0)) σ2) ∧ ((qLn x (σ 55) (σ 52 1) (σ 52 2) (σ 12 42) p).1 = 0 → ∀ σ2 : vS, rT x (qLn x (σ 55) (σ 52 1) (σ 52 2) (σ 12 42) p).2 σ2 → (∀ j : Int, 0 ≤ j → j < 4 * σ 12 42 → σ2 54 j = σ 54 j) → rRow (σ2 54) (σ 12 42) → σ2 12 42 = σ 12 42 → σ2 52 = σ 52 → σ2 55 = σ 55 → K (some (.inl 1)) σ2)
  | _ => False
def uBL : List (Nat × vSpL) := (239, us239) :: (277, us277) :: (276, us276) :: (178, rs178) :: (271, rs271) :: (230, rs230) :: []
end
theorem qlf_u {x : qX} {nm : Int → Int} {a m p : Int} (hm : 0 ≤ m) (h : 0 ≤ qlf x nm a m p) : qlf x nm a m p < m := by
  have e := qfd_b (f := nm) (a := a) (x := qwd x.1 x.2.1 p) (m := m) hm
  rw [qlf_eq] at h ⊢
  split at h
  · rename_i q
    rw [if_pos q]
    split at h
    · rename_i q2; rw [if_pos q2]; omega
    · omega
  · omega
theorem qlf_k {x : qX} {nm : Int → Int} {a m p : Int} (h : 0 ≤ qlf x nm a m p) : qkd x.1 x.2.1 x.2.2 p = 1 := by
  rw [qlf_eq] at h
  split at h
  · rename_i q; exact qnmp_k q
  · omega
theorem rRow_of {R : Int → Int} {n v a b c : Int} (h0 : R (4 * n) = v) (h1 : R (4 * n + 1) = a) (h2 : R (4 * n + 2) = b) (h3 : R (4 * n + 3) = c) (h : (v = 0 ∧ (0 ≤ a ∧ a ≤ 5) ∧ 0 ≤ b ∧ b ≤ 11) ∨ (v = 1 ∧ (0 ≤ a ∧ a ≤ 5) ∧ (0 ≤ b ∧ b ≤ 11) ∧ 0 ≤ c ∧ c ≤ 5) ∨ ((2 ≤ v ∧ v ≤ 4) ∧ (0 ≤ a ∧ a ≤ 5) ∧ 0 ≤ c ∧ c ≤ 5) ∨ (v = 5 ∧ 0 ≤ a ∧ a ≤ 5) ∨ ((6 ≤ v ∧ v ≤ 7) ∧ 0 ≤ a ∧ a ≤ 19) ∨ (v = 8 ∧ 0 ≤ a ∧ a ≤ 11) ∨ (v = 9 ∧ 1 ≤ a ∧ a ≤ 60)) : rRow R n := by
  unfold rRow
  rw [h0, h1, h2, h3]
  exact h
section ZVB
variable {E : zE} {w : va_W} {σ : vS} {K : vKL}
theorem uBL_ok (X : zX gKX E) (B : zB E) : zSL E gJ1 mdT w uBL := zS_consL (uk_239 X B) (zS_consL (uk_277 X B) (zS_consL (uk_276 X B) (zS_consL (rk_178 X B) (zS_consL (rk_271 X B) (zS_consL (rk_230 X B) zS_nilL)))))
set_option maxRecDepth 16384 in
theorem uk_185 (X : zX gKX E) (B : zB E) : zOKL E gJ1 mdT w 185 us185 := by
  intro q hq vs σ K h
  cases (show gMT 185 = some (gm_185, 4) from rfl).symm.trans hq
  unfold us185 at h
  split at h
  · obtain ⟨x, p, hT, ⟨hn, hm1, hm2⟩, hF, hG⟩ := h
    show zGL E gJ1 mdT w gm_185 0 [(0, .inr (.inl 12))] σ K
    refine zbdL (fun hb => ?_)
    have hl0 := (lim_ok B hb hT.1).1
    refine zbdL (fun hb => zgoL X B (uBL_ok X B) [] [] (fun m => false) (by decide +kernel) ?_)
    have f1 : 0 ≤ σ 12 42 ∧ σ 12 42 ≤ 40 := zfL B hb (t := 12) (f := 42) (by decide +kernel)
    refine And.intro (show -2147483648 ≤ (4 * (σ 12 42)) ∧ (4 * (σ 12 42)) ≤ 2147483647 from by omega) ?_
    refine fun z (t2 : (z = 1 ∧ σ 12 11 = 1 ∧ σ 12 17 = 495673767027) ∨ (z = 0 ∧ ¬ (σ 12 11 = 1 ∧ σ 12 17 = 495673767027))) => ?_
    rcases t2 with ⟨rfl, t2⟩ | ⟨rfl, t2⟩
    · have yt2 : qisw x p (qrw 15) = true := qisw_t hT (v := qrw 15) t2
      clear t2
      refine And.intro (fun (q : 1 = 0) => absurd q (by decide)) (fun _ => ?_)
      refine And.intro (fun (q : 6 < 0) => absurd q (by decide)) (fun _ => ?_)
      refine And.intro (fun (c3 : ¬ (σ 12 42) = 40) => ?_) (fun (c4 : (σ 12 42) = 40) => ?_)
      · refine And.intro (show 0 ≤ (4 * (σ 12 42)) ∧ (4 * (σ 12 42)) < 160 from by omega) ?_
        refine And.intro (show Int.negSucc 2147483647 ≤ 6 ∧ 6 ≤ 2147483647 from rgm (by omega)) ?_
        refine fun (σ1 : vS) (f1 : rfr (vup σ 54 (4 * (σ 12 42)) 6) σ1) (t1_ : rtk (rtx (vup σ 54 (4 * (σ 12 42)) 6)) ((vup σ 54 (4 * (σ 12 42)) 6) 12 3) ((vup σ 54 (4 * (σ 12 42)) 6) 12 5) (tE (fun q => tbk (rtx (vup σ 54 (4 * (σ 12 42)) 6) q)) ((vup σ 54 (4 * (σ 12 42)) 6) 12 3) ((vup σ 54 (4 * (σ 12 42)) 6) 12 4)) σ1) => ?_
        have T1 : rT x (qnx x.1 x.2.1 p) σ1 := rT_next (rT_t hT (by decide)) (by have := qisw_k yt2; omega) hl0 f1 t1_
        have q1 : σ1 54 = (ful (σ 54) (4 * (σ 12 42)) 6) := (f1.1 54 (by decide)).trans (vup_f.trans (congrArg (fun f => ful f (4 * (σ 12 42)) 6) (rfl : σ 54 = σ 54)))
        have c1_ : σ1 12 42 = σ 12 42 := (f1.2 42 (by decide) (by decide) (by decide) (by decide) (by decide) (by decide)).trans ((congrFun (vup_fr (by decide)) 42).trans rfl)
        have s1_ : σ1 52 = σ 52 := (f1.1 52 (by decide)).trans ((vup_fr (by decide)).trans rfl)
        have n1_ : σ1 55 = σ 55 := (f1.1 55 (by decide)).trans ((vup_fr (by decide)).trans rfl)
        have m1_1 : σ1 52 1 = σ 52 1 := congrFun s1_ 1
        have m1_2 : σ1 52 2 = σ 52 2 := congrFun s1_ 2
        refine And.intro (fun _ => ?_) (fun (q : 6 = 8) => absurd q (by decide))
        refine And.intro (fun _ => ?_) (fun (q : 6 = 9) => absurd q (by decide))
        refine And.intro (fun _ => ?_) (fun (q : 6 = 9) => absurd q (by decide))
        refine ⟨show -1 ≤ 0 ∧ 19 ≤ 60 from by decide, x, (qnx x.1 x.2.1 p), T1, fun (h2 : ¬ qkd x.1 x.2.1 x.2.2 (qnx x.1 x.2.1 p) = 2) (σ2 : vS) fl2 g2 => ?_, fun (h2 : qkd x.1 x.2.1 x.2.2 (qnx x.1 x.2.1 p) = 2) (i2 : ¬ (0 ≤ qvl x.1 x.2.1 (qnx x.1 x.2.1 p) ∧ qvl x.1 x.2.1 (qnx x.1 x.2.1 p) ≤ 19)) (σ2 : vS) fl2 g2 => ?_, fun (h2 : qkd x.1 x.2.1 x.2.2 (qnx x.1 x.2.1 p) = 2) (i2 : (0 ≤ qvl x.1 x.2.1 (qnx x.1 x.2.1 p) ∧ qvl x.1 x.2.1 (qnx x.1 x.2.1 p) ≤ 19)) (σ2 : vS) T2 g2 (v2 : σ2 12 18 = qvl x.1 x.2.1 (qnx x.1 x.2.1 p)) => ?_⟩
        · have q2 : σ2 54 = (ful (σ 54) (4 * (σ 12 42)) 6) := (g2.1 54 (by decide)).trans q1
          have c2_ : σ2 12 42 = σ 12 42 := (g2.2 42 (by decide) (by decide)).trans c1_
          have s2_ : σ2 52 = σ 52 := (g2.1 52 (by decide)).trans s1_
          have n2_ : σ2 55 = σ 55 := (g2.1 55 (by decide)).trans n1_
          have m2_1 : σ2 52 1 = σ 52 1 := congrFun s2_ 1
          have m2_2 : σ2 52 2 = σ 52 2 := congrFun s2_ 2
          refine And.intro (fun (q : ¬ 0 = 0) => absurd q (by decide)) (fun _ => ?_)
          refine And.intro (show 0 ≤ 0 ∧ 0 ≤ 1 from by omega) ?_
          have hv := (qVe_15  yt2)
          have eL : (qLn x (σ 55) (σ 52 1) (σ 52 2) (σ 12 42) p) = (1, (qnx x.1 x.2.1 p)) := (qLn_n (by omega) (by omega)).trans (by rw [hv]; exact qNu_1 h2)
          rw [eL] at hF
          exact hF (by first | (show ¬ ((1 : Int) = 0); decide) | (show ¬ ((2 : Int) = 0); decide) | (show ¬ ((4 : Int) = 0); decide) | (show ¬ (-(_) = (0 : Int)); omega)) _ fl2 c2_ s2_ n2_
        · have q2 : σ2 54 = (ful (σ 54) (4 * (σ 12 42)) 6) := (g2.1 54 (by decide)).trans q1
          have c2_ : σ2 12 42 = σ 12 42 := (g2.2 42 (by decide) (by decide)).trans c1_
          have s2_ : σ2 52 = σ 52 := (g2.1 52 (by decide)).trans s1_
          have n2_ : σ2 55 = σ 55 := (g2.1 55 (by decide)).trans n1_
          have m2_1 : σ2 52 1 = σ 52 1 := congrFun s2_ 1
          have m2_2 : σ2 52 2 = σ 52 2 := congrFun s2_ 2
          refine And.intro (fun (q : ¬ 0 = 0) => absurd q (by decide)) (fun _ => ?_)
          refine And.intro (show 0 ≤ 0 ∧ 0 ≤ 1 from by omega) ?_
          have hv := (qVe_15  yt2)
          have eL : (qLn x (σ 55) (σ 52 1) (σ 52 2) (σ 12 42) p) = (2, (qnx x.1 x.2.1 p)) := (qLn_n (by omega) (by omega)).trans (by rw [hv]; exact qNu_2 h2 (fun q => i2 (by simpa using q)))
          rw [eL] at hF
          exact hF (by first | (show ¬ ((1 : Int) = 0); decide) | (show ¬ ((2 : Int) = 0); decide) | (show ¬ ((4 : Int) = 0); decide) | (show ¬ (-(_) = (0 : Int)); omega)) _ fl2 c2_ s2_ n2_
        · have q2 : σ2 54 = (ful (σ 54) (4 * (σ 12 42)) 6) := (g2.1 54 (by decide)).trans q1
          have c2_ : σ2 12 42 = σ 12 42 := (g2.2 42 (by decide) (by decide)).trans c1_
          have s2_ : σ2 52 = σ 52 := (g2.1 52 (by decide)).trans s1_
          have n2_ : σ2 55 = σ 55 := (g2.1 55 (by decide)).trans n1_
          have m2_1 : σ2 52 1 = σ 52 1 := congrFun s2_ 1
          have m2_2 : σ2 52 2 = σ 52 2 := congrFun s2_ 2
          refine And.intro (fun _ => ?_) (fun (q : 1 = 0) => absurd q (by decide))
          refine And.intro (show -2147483648 ≤ ((4 * (σ 12 42)) + 1) ∧ ((4 * (σ 12 42)) + 1) ≤ 2147483647 from by omega) ?_
          refine And.intro (show 0 ≤ ((4 * (σ 12 42)) + 1) ∧ ((4 * (σ 12 42)) + 1) < 160 from by omega) ?_
          refine And.intro (show Int.negSucc 2147483647 ≤ (σ2 12 18) ∧ (σ2 12 18) ≤ 2147483647 from rgm (by omega)) ?_
          refine And.intro (show 0 ≤ 1 ∧ 1 ≤ 1 from by omega) ?_
          have hv := (qVe_15  yt2)
          have eL : (qLn x (σ 55) (σ 52 1) (σ 52 2) (σ 12 42) p) = (0, (qnx x.1 x.2.1 (qnx x.1 x.2.1 p))) := (qLn_n (by omega) (by omega)).trans (by rw [hv]; exact qNu_s h2 (by simpa using i2))
          rw [eL] at hG
          have hR := (vup_f.trans (congrArg (fun f => ful f ((4 * (σ 12 42)) + 1) (σ2 12 18)) q2))
          refine hG rfl (vup σ2 54 ((4 * (σ 12 42)) + 1) (σ2 12 18)) (rT_t T2 (by decide)) (fun j j0 j1 => (congrFun hR j).trans ((ful_ne (by omega)).trans ((ful_ne (by omega)).trans rfl))) (rRow_of ((congrFun hR (4 * (σ 12 42))).trans ((ful_ne (by omega)).trans ful_at)) ((congrFun hR ((4 * (σ 12 42)) + 1)).trans ful_at) rfl rfl (Or.inr (Or.inr (Or.inr (Or.inr (Or.inl ⟨⟨by decide, by decide⟩, by omega, by omega⟩)))))) ((congrFun (vup_fr (by decide)) 42).trans c2_) ((vup_fr (by decide)).trans s2_) ((vup_fr (by decide)).trans n2_)
      · refine And.intro (by omega) ?_
        refine And.intro (show 0 ≤ 0 ∧ 0 ≤ 1 from by omega) ?_
        have hv := (qVe_15  yt2)
        have eL : (qLn x (σ 55) (σ 52 1) (σ 52 2) (σ 12 42) p) = (4, p) := qLn_4 (by omega) (by omega)
        rw [eL] at hF
        exact hF (by first | (show ¬ ((1 : Int) = 0); decide) | (show ¬ ((2 : Int) = 0); decide) | (show ¬ ((4 : Int) = 0); decide) | (show ¬ (-(_) = (0 : Int)); omega)) _ (rFl_bad hT) ((vup_ne 12 42 (fun q => absurd q.2 (by decide))).trans ((vup_ne 12 42 (fun q => absurd q.2 (by decide))).trans rfl)) ((vup_fr (by decide)).trans ((vup_fr (by decide)).trans rfl)) ((vup_fr (by decide)).trans ((vup_fr (by decide)).trans rfl))
    · have yt2 : ¬ qisw x p (qrw 15) = true := by rw [qisw_f hT (v := qrw 15) t2]; exact Bool.false_ne_true
      clear t2
      refine And.intro (fun _ => ?_) (fun (q : ¬ 0 = 0) => absurd q (by decide))
      refine fun z (t5 : (z = 1 ∧ σ 12 11 = 1 ∧ σ 12 17 = 478627065459) ∨ (z = 0 ∧ ¬ (σ 12 11 = 1 ∧ σ 12 17 = 478627065459))) => ?_
      rcases t5 with ⟨rfl, t5⟩ | ⟨rfl, t5⟩
      · have yt5 : qisw x p (qrw 16) = true := qisw_t hT (v := qrw 16) t5
        clear t5
        refine And.intro (fun (q : 1 = 0) => absurd q (by decide)) (fun _ => ?_)
        refine And.intro (fun (q : 7 < 0) => absurd q (by decide)) (fun _ => ?_)
        refine And.intro (fun (c6 : ¬ (σ 12 42) = 40) => ?_) (fun (c7 : (σ 12 42) = 40) => ?_)
        · refine And.intro (show 0 ≤ (4 * (σ 12 42)) ∧ (4 * (σ 12 42)) < 160 from by omega) ?_
          refine And.intro (show Int.negSucc 2147483647 ≤ 7 ∧ 7 ≤ 2147483647 from rgm (by omega)) ?_
          refine fun (σ1 : vS) (f1 : rfr (vup σ 54 (4 * (σ 12 42)) 7) σ1) (t1_ : rtk (rtx (vup σ 54 (4 * (σ 12 42)) 7)) ((vup σ 54 (4 * (σ 12 42)) 7) 12 3) ((vup σ 54 (4 * (σ 12 42)) 7) 12 5) (tE (fun q => tbk (rtx (vup σ 54 (4 * (σ 12 42)) 7) q)) ((vup σ 54 (4 * (σ 12 42)) 7) 12 3) ((vup σ 54 (4 * (σ 12 42)) 7) 12 4)) σ1) => ?_
          have T1 : rT x (qnx x.1 x.2.1 p) σ1 := rT_next (rT_t hT (by decide)) (by have := qisw_k yt5; omega) hl0 f1 t1_
          have q1 : σ1 54 = (ful (σ 54) (4 * (σ 12 42)) 7) := (f1.1 54 (by decide)).trans (vup_f.trans (congrArg (fun f => ful f (4 * (σ 12 42)) 7) (rfl : σ 54 = σ 54)))
          have c1_ : σ1 12 42 = σ 12 42 := (f1.2 42 (by decide) (by decide) (by decide) (by decide) (by decide) (by decide)).trans ((congrFun (vup_fr (by decide)) 42).trans rfl)
          have s1_ : σ1 52 = σ 52 := (f1.1 52 (by decide)).trans ((vup_fr (by decide)).trans rfl)
          have n1_ : σ1 55 = σ 55 := (f1.1 55 (by decide)).trans ((vup_fr (by decide)).trans rfl)
          have m1_1 : σ1 52 1 = σ 52 1 := congrFun s1_ 1
          have m1_2 : σ1 52 2 = σ 52 2 := congrFun s1_ 2
          refine And.intro (fun _ => ?_) (fun (q : 7 = 8) => absurd q (by decide))
          refine And.intro (fun _ => ?_) (fun (q : 7 = 9) => absurd q (by decide))
          refine And.intro (fun _ => ?_) (fun (q : 7 = 9) => absurd q (by decide))
          refine ⟨show -1 ≤ 0 ∧ 19 ≤ 60 from by decide, x, (qnx x.1 x.2.1 p), T1, fun (h2 : ¬ qkd x.1 x.2.1 x.2.2 (qnx x.1 x.2.1 p) = 2) (σ2 : vS) fl2 g2 => ?_, fun (h2 : qkd x.1 x.2.1 x.2.2 (qnx x.1 x.2.1 p) = 2) (i2 : ¬ (0 ≤ qvl x.1 x.2.1 (qnx x.1 x.2.1 p) ∧ qvl x.1 x.2.1 (qnx x.1 x.2.1 p) ≤ 19)) (σ2 : vS) fl2 g2 => ?_, fun (h2 : qkd x.1 x.2.1 x.2.2 (qnx x.1 x.2.1 p) = 2) (i2 : (0 ≤ qvl x.1 x.2.1 (qnx x.1 x.2.1 p) ∧ qvl x.1 x.2.1 (qnx x.1 x.2.1 p) ≤ 19)) (σ2 : vS) T2 g2 (v2 : σ2 12 18 = qvl x.1 x.2.1 (qnx x.1 x.2.1 p)) => ?_⟩
          · have q2 : σ2 54 = (ful (σ 54) (4 * (σ 12 42)) 7) := (g2.1 54 (by decide)).trans q1
            have c2_ : σ2 12 42 = σ 12 42 := (g2.2 42 (by decide) (by decide)).trans c1_
            have s2_ : σ2 52 = σ 52 := (g2.1 52 (by decide)).trans s1_
            have n2_ : σ2 55 = σ 55 := (g2.1 55 (by decide)).trans n1_
            have m2_1 : σ2 52 1 = σ 52 1 := congrFun s2_ 1
            have m2_2 : σ2 52 2 = σ 52 2 := congrFun s2_ 2
            refine And.intro (fun (q : ¬ 0 = 0) => absurd q (by decide)) (fun _ => ?_)
            refine And.intro (show 0 ≤ 0 ∧ 0 ≤ 1 from by omega) ?_
            have hv := (qVe_16 yt2 yt5)
            have eL : (qLn x (σ 55) (σ 52 1) (σ 52 2) (σ 12 42) p) = (1, (qnx x.1 x.2.1 p)) := (qLn_n (by omega) (by omega)).trans (by rw [hv]; exact qNu_1 h2)
            rw [eL] at hF
            exact hF (by first | (show ¬ ((1 : Int) = 0); decide) | (show ¬ ((2 : Int) = 0); decide) | (show ¬ ((4 : Int) = 0); decide) | (show ¬ (-(_) = (0 : Int)); omega)) _ fl2 c2_ s2_ n2_
          · have q2 : σ2 54 = (ful (σ 54) (4 * (σ 12 42)) 7) := (g2.1 54 (by decide)).trans q1
            have c2_ : σ2 12 42 = σ 12 42 := (g2.2 42 (by decide) (by decide)).trans c1_
            have s2_ : σ2 52 = σ 52 := (g2.1 52 (by decide)).trans s1_
            have n2_ : σ2 55 = σ 55 := (g2.1 55 (by decide)).trans n1_
            have m2_1 : σ2 52 1 = σ 52 1 := congrFun s2_ 1
            have m2_2 : σ2 52 2 = σ 52 2 := congrFun s2_ 2
            refine And.intro (fun (q : ¬ 0 = 0) => absurd q (by decide)) (fun _ => ?_)
            refine And.intro (show 0 ≤ 0 ∧ 0 ≤ 1 from by omega) ?_
            have hv := (qVe_16 yt2 yt5)
            have eL : (qLn x (σ 55) (σ 52 1) (σ 52 2) (σ 12 42) p) = (2, (qnx x.1 x.2.1 p)) := (qLn_n (by omega) (by omega)).trans (by rw [hv]; exact qNu_2 h2 (fun q => i2 (by simpa using q)))
            rw [eL] at hF
            exact hF (by first | (show ¬ ((1 : Int) = 0); decide) | (show ¬ ((2 : Int) = 0); decide) | (show ¬ ((4 : Int) = 0); decide) | (show ¬ (-(_) = (0 : Int)); omega)) _ fl2 c2_ s2_ n2_
          · have q2 : σ2 54 = (ful (σ 54) (4 * (σ 12 42)) 7) := (g2.1 54 (by decide)).trans q1
            have c2_ : σ2 12 42 = σ 12 42 := (g2.2 42 (by decide) (by decide)).trans c1_
            have s2_ : σ2 52 = σ 52 := (g2.1 52 (by decide)).trans s1_
            have n2_ : σ2 55 = σ 55 := (g2.1 55 (by decide)).trans n1_
            have m2_1 : σ2 52 1 = σ 52 1 := congrFun s2_ 1
            have m2_2 : σ2 52 2 = σ 52 2 := congrFun s2_ 2
            refine And.intro (fun _ => ?_) (fun (q : 1 = 0) => absurd q (by decide))
            refine And.intro (show -2147483648 ≤ ((4 * (σ 12 42)) + 1) ∧ ((4 * (σ 12 42)) + 1) ≤ 2147483647 from by omega) ?_
            refine And.intro (show 0 ≤ ((4 * (σ 12 42)) + 1) ∧ ((4 * (σ 12 42)) + 1) < 160 from by omega) ?_
            refine And.intro (show Int.negSucc 2147483647 ≤ (σ2 12 18) ∧ (σ2 12 18) ≤ 2147483647 from rgm (by omega)) ?_
            refine And.intro (show 0 ≤ 1 ∧ 1 ≤ 1 from by omega) ?_
            have hv := (qVe_16 yt2 yt5)
            have eL : (qLn x (σ 55) (σ 52 1) (σ 52 2) (σ 12 42) p) = (0, (qnx x.1 x.2.1 (qnx x.1 x.2.1 p))) := (qLn_n (by omega) (by omega)).trans (by rw [hv]; exact qNu_s h2 (by simpa using i2))
            rw [eL] at hG
            have hR := (vup_f.trans (congrArg (fun f => ful f ((4 * (σ 12 42)) + 1) (σ2 12 18)) q2))
            refine hG rfl (vup σ2 54 ((4 * (σ 12 42)) + 1) (σ2 12 18)) (rT_t T2 (by decide)) (fun j j0 j1 => (congrFun hR j).trans ((ful_ne (by omega)).trans ((ful_ne (by omega)).trans rfl))) (rRow_of ((congrFun hR (4 * (σ 12 42))).trans ((ful_ne (by omega)).trans ful_at)) ((congrFun hR ((4 * (σ 12 42)) + 1)).trans ful_at) rfl rfl (Or.inr (Or.inr (Or.inr (Or.inr (Or.inl ⟨⟨by decide, by decide⟩, by omega, by omega⟩)))))) ((congrFun (vup_fr (by decide)) 42).trans c2_) ((vup_fr (by decide)).trans s2_) ((vup_fr (by decide)).trans n2_)
        · refine And.intro (by omega) ?_
          refine And.intro (show 0 ≤ 0 ∧ 0 ≤ 1 from by omega) ?_
          have hv := (qVe_16 yt2 yt5)
          have eL : (qLn x (σ 55) (σ 52 1) (σ 52 2) (σ 12 42) p) = (4, p) := qLn_4 (by omega) (by omega)
          rw [eL] at hF
          exact hF (by first | (show ¬ ((1 : Int) = 0); decide) | (show ¬ ((2 : Int) = 0); decide) | (show ¬ ((4 : Int) = 0); decide) | (show ¬ (-(_) = (0 : Int)); omega)) _ (rFl_bad hT) ((vup_ne 12 42 (fun q => absurd q.2 (by decide))).trans ((vup_ne 12 42 (fun q => absurd q.2 (by decide))).trans rfl)) ((vup_fr (by decide)).trans ((vup_fr (by decide)).trans rfl)) ((vup_fr (by decide)).trans ((vup_fr (by decide)).trans rfl))
      · have yt5 : ¬ qisw x p (qrw 16) = true := by rw [qisw_f hT (v := qrw 16) t5]; exact Bool.false_ne_true
        clear t5
        refine And.intro (fun _ => ?_) (fun (q : ¬ 0 = 0) => absurd q (by decide))
        refine fun z (t8 : (z = 1 ∧ σ 12 11 = 1 ∧ σ 12 17 = 422877228659) ∨ (z = 0 ∧ ¬ (σ 12 11 = 1 ∧ σ 12 17 = 422877228659))) => ?_
        rcases t8 with ⟨rfl, t8⟩ | ⟨rfl, t8⟩
        · have yt8 : qisw x p (qrw 17) = true := qisw_t hT (v := qrw 17) t8
          clear t8
          refine And.intro (fun (q : 1 = 0) => absurd q (by decide)) (fun _ => ?_)
          refine And.intro (fun (q : 8 < 0) => absurd q (by decide)) (fun _ => ?_)
          refine And.intro (fun (c9 : ¬ (σ 12 42) = 40) => ?_) (fun (c10 : (σ 12 42) = 40) => ?_)
          · refine And.intro (show 0 ≤ (4 * (σ 12 42)) ∧ (4 * (σ 12 42)) < 160 from by omega) ?_
            refine And.intro (show Int.negSucc 2147483647 ≤ 8 ∧ 8 ≤ 2147483647 from rgm (by omega)) ?_
            refine fun (σ1 : vS) (f1 : rfr (vup σ 54 (4 * (σ 12 42)) 8) σ1) (t1_ : rtk (rtx (vup σ 54 (4 * (σ 12 42)) 8)) ((vup σ 54 (4 * (σ 12 42)) 8) 12 3) ((vup σ 54 (4 * (σ 12 42)) 8) 12 5) (tE (fun q => tbk (rtx (vup σ 54 (4 * (σ 12 42)) 8) q)) ((vup σ 54 (4 * (σ 12 42)) 8) 12 3) ((vup σ 54 (4 * (σ 12 42)) 8) 12 4)) σ1) => ?_
            have T1 : rT x (qnx x.1 x.2.1 p) σ1 := rT_next (rT_t hT (by decide)) (by have := qisw_k yt8; omega) hl0 f1 t1_
            have q1 : σ1 54 = (ful (σ 54) (4 * (σ 12 42)) 8) := (f1.1 54 (by decide)).trans (vup_f.trans (congrArg (fun f => ful f (4 * (σ 12 42)) 8) (rfl : σ 54 = σ 54)))
            have c1_ : σ1 12 42 = σ 12 42 := (f1.2 42 (by decide) (by decide) (by decide) (by decide) (by decide) (by decide)).trans ((congrFun (vup_fr (by decide)) 42).trans rfl)
            have s1_ : σ1 52 = σ 52 := (f1.1 52 (by decide)).trans ((vup_fr (by decide)).trans rfl)
            have n1_ : σ1 55 = σ 55 := (f1.1 55 (by decide)).trans ((vup_fr (by decide)).trans rfl)
            have m1_1 : σ1 52 1 = σ 52 1 := congrFun s1_ 1
            have m1_2 : σ1 52 2 = σ 52 2 := congrFun s1_ 2
            refine And.intro (fun (q : ¬ 8 = 8) => absurd q (by decide)) (fun _ => ?_)
            refine And.intro (show -2147483648 ≤ ((4 * (σ 12 42)) + 1) ∧ ((4 * (σ 12 42)) + 1) ≤ 2147483647 from by omega) ?_
            refine And.intro (show 0 ≤ 2 ∧ 2 < 402 from by omega) ?_
            have w2 : σ1 55 = σ 55 := n1_
            have z2 : (σ1 52 2) = σ 52 2 := by first | rfl | omega | exact congrFun s1_ 2
            refine ⟨show ((0 : Int) ≤ 12 ∧ 0 ≤ (σ1 52 2)) ∧ 12 + (σ1 52 2) ≤ 48 from by omega, x, (qnx x.1 x.2.1 p), T1, fun (h2 : qlf x (σ1 55) 12 ((σ1 52 2)) (qnx x.1 x.2.1 p) < 0) (σ2 : vS) (fl2 : rFl x (-(qlf x (σ1 55) 12 ((σ1 52 2)) (qnx x.1 x.2.1 p))) (qnx x.1 x.2.1 p) σ2) (g2 : rg σ1 σ2) => ?_, fun (h2 : 0 ≤ qlf x (σ1 55) 12 ((σ1 52 2)) (qnx x.1 x.2.1 p)) (σ2 : vS) (T2 : rT x (qnx x.1 x.2.1 (qnx x.1 x.2.1 p)) σ2) (g2 : rg σ1 σ2) (v2 : σ2 12 18 = qlf x (σ1 55) 12 ((σ1 52 2)) (qnx x.1 x.2.1 p)) => ?_⟩
            · rw [w2, z2] at h2 fl2
              have q2 : σ2 54 = (ful (σ 54) (4 * (σ 12 42)) 8) := (g2.1 54 (by decide)).trans q1
              have c2_ : σ2 12 42 = σ 12 42 := (g2.2 42 (by decide) (by decide)).trans c1_
              have s2_ : σ2 52 = σ 52 := (g2.1 52 (by decide)).trans s1_
              have n2_ : σ2 55 = σ 55 := (g2.1 55 (by decide)).trans n1_
              have m2_1 : σ2 52 1 = σ 52 1 := congrFun s2_ 1
              have m2_2 : σ2 52 2 = σ 52 2 := congrFun s2_ 2
              refine And.intro (fun (q : ¬ 0 = 0) => absurd q (by decide)) (fun _ => ?_)
              refine And.intro (show 0 ≤ 0 ∧ 0 ≤ 1 from by omega) ?_
              refine And.intro (show 0 ≤ 0 ∧ 0 ≤ 1 from by omega) ?_
              have hv := (qVe_17 yt2 yt5 yt8)
              have bq := qlf_b (x := x) (nm := σ 55) (p := (qnx x.1 x.2.1 p)) (σ 52 2) 12 (by omega)
              have eL : (qLn x (σ 55) (σ 52 1) (σ 52 2) (σ 12 42) p) = (-(qlf x (σ 55) 12 (σ 52 2) (qnx x.1 x.2.1 p)), (qnx x.1 x.2.1 p)) := (qLn_r hv (by omega)).trans (qRm_f h2)
              rw [eL] at hF
              exact hF (by first | (show ¬ ((1 : Int) = 0); decide) | (show ¬ ((2 : Int) = 0); decide) | (show ¬ ((4 : Int) = 0); decide) | (show ¬ (-(_) = (0 : Int)); omega)) _ fl2 c2_ s2_ n2_
            · rw [w2, z2] at h2 v2
              have bq2 := qlf_u (x := x) (nm := σ 55) (p := (qnx x.1 x.2.1 p)) (m := σ 52 2) (a := 12) hm2.1 h2
              have q2 : σ2 54 = (ful (σ 54) (4 * (σ 12 42)) 8) := (g2.1 54 (by decide)).trans q1
              have c2_ : σ2 12 42 = σ 12 42 := (g2.2 42 (by decide) (by decide)).trans c1_
              have s2_ : σ2 52 = σ 52 := (g2.1 52 (by decide)).trans s1_
              have n2_ : σ2 55 = σ 55 := (g2.1 55 (by decide)).trans n1_
              have m2_1 : σ2 52 1 = σ 52 1 := congrFun s2_ 1
              have m2_2 : σ2 52 2 = σ 52 2 := congrFun s2_ 2
              refine And.intro (fun _ => ?_) (fun (q : 1 = 0) => absurd q (by decide))
              refine And.intro (show 0 ≤ ((4 * (σ 12 42)) + 1) ∧ ((4 * (σ 12 42)) + 1) < 160 from by omega) ?_
              refine And.intro (show Int.negSucc 2147483647 ≤ (σ2 12 18) ∧ (σ2 12 18) ≤ 2147483647 from rgm (by omega)) ?_
              refine And.intro (show 0 ≤ 1 ∧ 1 ≤ 1 from by omega) ?_
              refine And.intro (show 0 ≤ 1 ∧ 1 ≤ 1 from by omega) ?_
              have hv := (qVe_17 yt2 yt5 yt8)
              have eL : (qLn x (σ 55) (σ 52 1) (σ 52 2) (σ 12 42) p) = (0, (qnx x.1 x.2.1 (qnx x.1 x.2.1 p))) := (qLn_r hv (by omega)).trans (qRm_s h2)
              rw [eL] at hG
              have hR := (vup_f.trans (congrArg (fun f => ful f ((4 * (σ 12 42)) + 1) (σ2 12 18)) q2))
              refine hG rfl (vup σ2 54 ((4 * (σ 12 42)) + 1) (σ2 12 18)) (rT_t T2 (by decide)) (fun j j0 j1 => (congrFun hR j).trans ((ful_ne (by omega)).trans ((ful_ne (by omega)).trans rfl))) (rRow_of ((congrFun hR (4 * (σ 12 42))).trans ((ful_ne (by omega)).trans ful_at)) ((congrFun hR ((4 * (σ 12 42)) + 1)).trans ful_at) rfl rfl (Or.inr (Or.inr (Or.inr (Or.inr (Or.inr (Or.inl ⟨rfl, by omega, by omega⟩))))))) ((congrFun (vup_fr (by decide)) 42).trans c2_) ((vup_fr (by decide)).trans s2_) ((vup_fr (by decide)).trans n2_)
          · refine And.intro (by omega) ?_
            refine And.intro (show 0 ≤ 0 ∧ 0 ≤ 1 from by omega) ?_
            have hv := (qVe_17 yt2 yt5 yt8)
            have eL : (qLn x (σ 55) (σ 52 1) (σ 52 2) (σ 12 42) p) = (4, p) := qLn_4 (by omega) (by omega)
            rw [eL] at hF
            exact hF (by first | (show ¬ ((1 : Int) = 0); decide) | (show ¬ ((2 : Int) = 0); decide) | (show ¬ ((4 : Int) = 0); decide) | (show ¬ (-(_) = (0 : Int)); omega)) _ (rFl_bad hT) ((vup_ne 12 42 (fun q => absurd q.2 (by decide))).trans ((vup_ne 12 42 (fun q => absurd q.2 (by decide))).trans rfl)) ((vup_fr (by decide)).trans ((vup_fr (by decide)).trans rfl)) ((vup_fr (by decide)).trans ((vup_fr (by decide)).trans rfl))
        · have yt8 : ¬ qisw x p (qrw 17) = true := by rw [qisw_f hT (v := qrw 17) t8]; exact Bool.false_ne_true
          clear t8
          refine And.intro (fun _ => ?_) (fun (q : ¬ 0 = 0) => absurd q (by decide))
          refine fun z (t11 : (z = 1 ∧ σ 12 11 = 1 ∧ σ 12 17 = 120299592184933) ∨ (z = 0 ∧ ¬ (σ 12 11 = 1 ∧ σ 12 17 = 120299592184933))) => ?_
          rcases t11 with ⟨rfl, t11⟩ | ⟨rfl, t11⟩
          · have yt11 : qisw x p (qrw 18) = true := qisw_t hT (v := qrw 18) t11
            clear t11
            refine And.intro (fun (q : 1 = 0) => absurd q (by decide)) (fun _ => ?_)
            refine And.intro (fun (q : 9 < 0) => absurd q (by decide)) (fun _ => ?_)
            refine And.intro (fun (c12 : ¬ (σ 12 42) = 40) => ?_) (fun (c13 : (σ 12 42) = 40) => ?_)
            · refine And.intro (show 0 ≤ (4 * (σ 12 42)) ∧ (4 * (σ 12 42)) < 160 from by omega) ?_
              refine And.intro (show Int.negSucc 2147483647 ≤ 9 ∧ 9 ≤ 2147483647 from rgm (by omega)) ?_
              refine fun (σ1 : vS) (f1 : rfr (vup σ 54 (4 * (σ 12 42)) 9) σ1) (t1_ : rtk (rtx (vup σ 54 (4 * (σ 12 42)) 9)) ((vup σ 54 (4 * (σ 12 42)) 9) 12 3) ((vup σ 54 (4 * (σ 12 42)) 9) 12 5) (tE (fun q => tbk (rtx (vup σ 54 (4 * (σ 12 42)) 9) q)) ((vup σ 54 (4 * (σ 12 42)) 9) 12 3) ((vup σ 54 (4 * (σ 12 42)) 9) 12 4)) σ1) => ?_
              have T1 : rT x (qnx x.1 x.2.1 p) σ1 := rT_next (rT_t hT (by decide)) (by have := qisw_k yt11; omega) hl0 f1 t1_
              have q1 : σ1 54 = (ful (σ 54) (4 * (σ 12 42)) 9) := (f1.1 54 (by decide)).trans (vup_f.trans (congrArg (fun f => ful f (4 * (σ 12 42)) 9) (rfl : σ 54 = σ 54)))
              have c1_ : σ1 12 42 = σ 12 42 := (f1.2 42 (by decide) (by decide) (by decide) (by decide) (by decide) (by decide)).trans ((congrFun (vup_fr (by decide)) 42).trans rfl)
              have s1_ : σ1 52 = σ 52 := (f1.1 52 (by decide)).trans ((vup_fr (by decide)).trans rfl)
              have n1_ : σ1 55 = σ 55 := (f1.1 55 (by decide)).trans ((vup_fr (by decide)).trans rfl)
              have m1_1 : σ1 52 1 = σ 52 1 := congrFun s1_ 1
              have m1_2 : σ1 52 2 = σ 52 2 := congrFun s1_ 2
              refine And.intro (fun _ => ?_) (fun (q : 9 = 8) => absurd q (by decide))
              refine And.intro (fun (q : ¬ 9 = 9) => absurd q (by decide)) (fun _ => ?_)
              refine And.intro (fun (q : ¬ 9 = 9) => absurd q (by decide)) (fun _ => ?_)
              refine ⟨show -1 ≤ 1 ∧ 60 ≤ 60 from by decide, x, (qnx x.1 x.2.1 p), T1, fun (h2 : ¬ qkd x.1 x.2.1 x.2.2 (qnx x.1 x.2.1 p) = 2) (σ2 : vS) fl2 g2 => ?_, fun (h2 : qkd x.1 x.2.1 x.2.2 (qnx x.1 x.2.1 p) = 2) (i2 : ¬ (1 ≤ qvl x.1 x.2.1 (qnx x.1 x.2.1 p) ∧ qvl x.1 x.2.1 (qnx x.1 x.2.1 p) ≤ 60)) (σ2 : vS) fl2 g2 => ?_, fun (h2 : qkd x.1 x.2.1 x.2.2 (qnx x.1 x.2.1 p) = 2) (i2 : (1 ≤ qvl x.1 x.2.1 (qnx x.1 x.2.1 p) ∧ qvl x.1 x.2.1 (qnx x.1 x.2.1 p) ≤ 60)) (σ2 : vS) T2 g2 (v2 : σ2 12 18 = qvl x.1 x.2.1 (qnx x.1 x.2.1 p)) => ?_⟩
              · have q2 : σ2 54 = (ful (σ 54) (4 * (σ 12 42)) 9) := (g2.1 54 (by decide)).trans q1
                have c2_ : σ2 12 42 = σ 12 42 := (g2.2 42 (by decide) (by decide)).trans c1_
                have s2_ : σ2 52 = σ 52 := (g2.1 52 (by decide)).trans s1_
                have n2_ : σ2 55 = σ 55 := (g2.1 55 (by decide)).trans n1_
                have m2_1 : σ2 52 1 = σ 52 1 := congrFun s2_ 1
                have m2_2 : σ2 52 2 = σ 52 2 := congrFun s2_ 2
                refine And.intro (fun (q : ¬ 0 = 0) => absurd q (by decide)) (fun _ => ?_)
                refine And.intro (show 0 ≤ 0 ∧ 0 ≤ 1 from by omega) ?_
                have hv := (qVe_18 yt2 yt5 yt8 yt11)
                have eL : (qLn x (σ 55) (σ 52 1) (σ 52 2) (σ 12 42) p) = (1, (qnx x.1 x.2.1 p)) := (qLn_n (by omega) (by omega)).trans (by rw [hv]; exact qNu_1 h2)
                rw [eL] at hF
                exact hF (by first | (show ¬ ((1 : Int) = 0); decide) | (show ¬ ((2 : Int) = 0); decide) | (show ¬ ((4 : Int) = 0); decide) | (show ¬ (-(_) = (0 : Int)); omega)) _ fl2 c2_ s2_ n2_
              · have q2 : σ2 54 = (ful (σ 54) (4 * (σ 12 42)) 9) := (g2.1 54 (by decide)).trans q1
                have c2_ : σ2 12 42 = σ 12 42 := (g2.2 42 (by decide) (by decide)).trans c1_
                have s2_ : σ2 52 = σ 52 := (g2.1 52 (by decide)).trans s1_
                have n2_ : σ2 55 = σ 55 := (g2.1 55 (by decide)).trans n1_
                have m2_1 : σ2 52 1 = σ 52 1 := congrFun s2_ 1
                have m2_2 : σ2 52 2 = σ 52 2 := congrFun s2_ 2
                refine And.intro (fun (q : ¬ 0 = 0) => absurd q (by decide)) (fun _ => ?_)
                refine And.intro (show 0 ≤ 0 ∧ 0 ≤ 1 from by omega) ?_
                have hv := (qVe_18 yt2 yt5 yt8 yt11)
                have eL : (qLn x (σ 55) (σ 52 1) (σ 52 2) (σ 12 42) p) = (2, (qnx x.1 x.2.1 p)) := (qLn_n (by omega) (by omega)).trans (by rw [hv]; exact qNu_2 h2 (fun q => i2 (by simpa using q)))
                rw [eL] at hF
                exact hF (by first | (show ¬ ((1 : Int) = 0); decide) | (show ¬ ((2 : Int) = 0); decide) | (show ¬ ((4 : Int) = 0); decide) | (show ¬ (-(_) = (0 : Int)); omega)) _ fl2 c2_ s2_ n2_
              · have q2 : σ2 54 = (ful (σ 54) (4 * (σ 12 42)) 9) := (g2.1 54 (by decide)).trans q1
                have c2_ : σ2 12 42 = σ 12 42 := (g2.2 42 (by decide) (by decide)).trans c1_
                have s2_ : σ2 52 = σ 52 := (g2.1 52 (by decide)).trans s1_
                have n2_ : σ2 55 = σ 55 := (g2.1 55 (by decide)).trans n1_
                have m2_1 : σ2 52 1 = σ 52 1 := congrFun s2_ 1
                have m2_2 : σ2 52 2 = σ 52 2 := congrFun s2_ 2
                refine And.intro (fun _ => ?_) (fun (q : 1 = 0) => absurd q (by decide))
                refine And.intro (show -2147483648 ≤ ((4 * (σ 12 42)) + 1) ∧ ((4 * (σ 12 42)) + 1) ≤ 2147483647 from by omega) ?_
                refine And.intro (show 0 ≤ ((4 * (σ 12 42)) + 1) ∧ ((4 * (σ 12 42)) + 1) < 160 from by omega) ?_
                refine And.intro (show Int.negSucc 2147483647 ≤ (σ2 12 18) ∧ (σ2 12 18) ≤ 2147483647 from rgm (by omega)) ?_
                refine And.intro (show 0 ≤ 1 ∧ 1 ≤ 1 from by omega) ?_
                have hv := (qVe_18 yt2 yt5 yt8 yt11)
                have eL : (qLn x (σ 55) (σ 52 1) (σ 52 2) (σ 12 42) p) = (0, (qnx x.1 x.2.1 (qnx x.1 x.2.1 p))) := (qLn_n (by omega) (by omega)).trans (by rw [hv]; exact qNu_s h2 (by simpa using i2))
                rw [eL] at hG
                have hR := (vup_f.trans (congrArg (fun f => ful f ((4 * (σ 12 42)) + 1) (σ2 12 18)) q2))
                refine hG rfl (vup σ2 54 ((4 * (σ 12 42)) + 1) (σ2 12 18)) (rT_t T2 (by decide)) (fun j j0 j1 => (congrFun hR j).trans ((ful_ne (by omega)).trans ((ful_ne (by omega)).trans rfl))) (rRow_of ((congrFun hR (4 * (σ 12 42))).trans ((ful_ne (by omega)).trans ful_at)) ((congrFun hR ((4 * (σ 12 42)) + 1)).trans ful_at) rfl rfl (Or.inr (Or.inr (Or.inr (Or.inr (Or.inr (Or.inr ⟨rfl, by omega, by omega⟩))))))) ((congrFun (vup_fr (by decide)) 42).trans c2_) ((vup_fr (by decide)).trans s2_) ((vup_fr (by decide)).trans n2_)
            · refine And.intro (by omega) ?_
              refine And.intro (show 0 ≤ 0 ∧ 0 ≤ 1 from by omega) ?_
              have hv := (qVe_18 yt2 yt5 yt8 yt11)
              have eL : (qLn x (σ 55) (σ 52 1) (σ 52 2) (σ 12 42) p) = (4, p) := qLn_4 (by omega) (by omega)
              rw [eL] at hF
              exact hF (by first | (show ¬ ((1 : Int) = 0); decide) | (show ¬ ((2 : Int) = 0); decide) | (show ¬ ((4 : Int) = 0); decide) | (show ¬ (-(_) = (0 : Int)); omega)) _ (rFl_bad hT) ((vup_ne 12 42 (fun q => absurd q.2 (by decide))).trans ((vup_ne 12 42 (fun q => absurd q.2 (by decide))).trans rfl)) ((vup_fr (by decide)).trans ((vup_fr (by decide)).trans rfl)) ((vup_fr (by decide)).trans ((vup_fr (by decide)).trans rfl))
          · have yt11 : ¬ qisw x p (qrw 18) = true := by rw [qisw_f hT (v := qrw 18) t11]; exact Bool.false_ne_true
            clear t11
            refine And.intro (fun _ => ?_) (fun (q : ¬ 0 = 0) => absurd q (by decide))
            refine And.intro (fun _ => ?_) (fun (q : 0 ≤ (-1)) => absurd q (by decide))
            refine And.intro (show 0 ≤ 1 ∧ 1 < 402 from by omega) ?_
            have f14 : 0 ≤ σ 52 1 ∧ σ 52 1 ≤ 6 := zbL B hb (t := 52) (a := 0) (n := 2) (i := 1) (by decide +kernel) (by omega) (by omega)
            have hv : qVe x p = -1 := (qVe_n yt2 yt5 yt8 yt11)
            refine ⟨show ((0 : Int) ≤ 6 ∧ 0 ≤ σ 52 1) ∧ 6 + σ 52 1 ≤ 48 from by omega, x, p, hT, fun (h1 : qlf x (σ 55) 6 (σ 52 1) p < 0) (σ1 : vS) fl1 g1 => ?_, fun (h1 : 0 ≤ qlf x (σ 55) 6 (σ 52 1) p) (σ1 : vS) T1 g1 u1 (v1 : σ1 12 18 = qlf x (σ 55) 6 (σ 52 1) p) => ?_⟩
            · have q1 : σ1 54 = (σ 54) := (g1.1 54 (by decide)).trans (rfl : σ 54 = σ 54)
              have c1_ : σ1 12 42 = σ 12 42 := (g1.2 42 (by decide) (by decide)).trans rfl
              have s1_ : σ1 52 = σ 52 := (g1.1 52 (by decide)).trans rfl
              have n1_ : σ1 55 = σ 55 := (g1.1 55 (by decide)).trans rfl
              have m1_1 : σ1 52 1 = σ 52 1 := congrFun s1_ 1
              have m1_2 : σ1 52 2 = σ 52 2 := congrFun s1_ 2
              refine And.intro (fun (q : ¬ 0 = 0) => absurd q (by decide)) (fun _ => ?_)
              refine And.intro (show 0 ≤ 0 ∧ 0 ≤ 1 from by omega) ?_
              have bq := qlf_b (x := x) (nm := σ 55) (p := p) (σ 52 1) 6 (by omega)
              have eL : (qLn x (σ 55) (σ 52 1) (σ 52 2) (σ 12 42) p) = (-(qlf x (σ 55) 6 (σ 52 1) p), p) := (qLn_o hv h1 (by omega))
              rw [eL] at hF
              exact hF (by first | (show ¬ ((1 : Int) = 0); decide) | (show ¬ ((2 : Int) = 0); decide) | (show ¬ ((4 : Int) = 0); decide) | (show ¬ (-(_) = (0 : Int)); omega)) _ fl1 c1_ s1_ n1_
            · have kq1 := qlf_k (x := x) (nm := σ 55) (p := p) h1
              have bq1 := qlf_u (x := x) (nm := σ 55) (p := p) (m := σ 52 1) (a := 6) hm1.1 h1
              have q1 : σ1 54 = (σ 54) := (g1.1 54 (by decide)).trans (rfl : σ 54 = σ 54)
              have c1_ : σ1 12 42 = σ 12 42 := (g1.2 42 (by decide) (by decide)).trans rfl
              have s1_ : σ1 52 = σ 52 := (g1.1 52 (by decide)).trans rfl
              have n1_ : σ1 55 = σ 55 := (g1.1 55 (by decide)).trans rfl
              have m1_1 : σ1 52 1 = σ 52 1 := congrFun s1_ 1
              have m1_2 : σ1 52 2 = σ 52 2 := congrFun s1_ 2
              refine And.intro (fun _ => ?_) (fun (q : 1 = 0) => absurd q (by decide))
              refine And.intro (fun (c15 : ¬ (σ1 12 42) = 40) => ?_) (fun (c16 : (σ1 12 42) = 40) => ?_)
              · refine And.intro (show -2147483648 ≤ ((4 * (σ 12 42)) + 1) ∧ ((4 * (σ 12 42)) + 1) ≤ 2147483647 from by omega) ?_
                refine And.intro (show 0 ≤ ((4 * (σ 12 42)) + 1) ∧ ((4 * (σ 12 42)) + 1) < 160 from by omega) ?_
                refine And.intro (show Int.negSucc 2147483647 ≤ (σ1 12 18) ∧ (σ1 12 18) ≤ 2147483647 from rgm (by omega)) ?_
                refine fun (σ2 : vS) (f2 : rfr (vup σ1 54 ((4 * (σ 12 42)) + 1) (σ1 12 18)) σ2) (t2_ : rtk (rtx (vup σ1 54 ((4 * (σ 12 42)) + 1) (σ1 12 18))) ((vup σ1 54 ((4 * (σ 12 42)) + 1) (σ1 12 18)) 12 3) ((vup σ1 54 ((4 * (σ 12 42)) + 1) (σ1 12 18)) 12 5) (tE (fun q => tbk (rtx (vup σ1 54 ((4 * (σ 12 42)) + 1) (σ1 12 18)) q)) ((vup σ1 54 ((4 * (σ 12 42)) + 1) (σ1 12 18)) 12 3) ((vup σ1 54 ((4 * (σ 12 42)) + 1) (σ1 12 18)) 12 4)) σ2) => ?_
                have T2 : rT x (qnx x.1 x.2.1 p) σ2 := rT_next (rT_t T1 (by decide)) (by omega) hl0 f2 t2_
                have q2 : σ2 54 = (ful (σ 54) ((4 * (σ 12 42)) + 1) (σ1 12 18)) := (f2.1 54 (by decide)).trans (vup_f.trans (congrArg (fun f => ful f ((4 * (σ 12 42)) + 1) (σ1 12 18)) q1))
                have c2_ : σ2 12 42 = σ 12 42 := (f2.2 42 (by decide) (by decide) (by decide) (by decide) (by decide) (by decide)).trans ((congrFun (vup_fr (by decide)) 42).trans c1_)
                have s2_ : σ2 52 = σ 52 := (f2.1 52 (by decide)).trans ((vup_fr (by decide)).trans s1_)
                have n2_ : σ2 55 = σ 55 := (f2.1 55 (by decide)).trans ((vup_fr (by decide)).trans n1_)
                have m2_1 : σ2 52 1 = σ 52 1 := congrFun s2_ 1
                have m2_2 : σ2 52 2 = σ 52 2 := congrFun s2_ 2
                refine fun z (t17 : (z = 1 ∧ σ2 12 11 = 1 ∧ σ2 12 17 = 1735353715) ∨ (z = 0 ∧ ¬ (σ2 12 11 = 1 ∧ σ2 12 17 = 1735353715))) => ?_
                rcases t17 with ⟨rfl, t17⟩ | ⟨rfl, t17⟩
                · have yt17 : qisw x (qnx x.1 x.2.1 p) (qrw 9) = true := qisw_t T2 (v := qrw 9) t17
                  clear t17
                  refine And.intro (fun (q : 1 = 0) => absurd q (by decide)) (fun _ => ?_)
                  refine And.intro (fun _ => ?_) (fun (q : 0 < 0) => absurd q (by decide))
                  refine And.intro (show 0 ≤ (4 * (σ 12 42)) ∧ (4 * (σ 12 42)) < 160 from by omega) ?_
                  refine And.intro (show Int.negSucc 2147483647 ≤ 0 ∧ 0 ≤ 2147483647 from rgm (by omega)) ?_
                  refine fun (σ3 : vS) (f3 : rfr (vup σ2 54 (4 * (σ 12 42)) 0) σ3) (t3_ : rtk (rtx (vup σ2 54 (4 * (σ 12 42)) 0)) ((vup σ2 54 (4 * (σ 12 42)) 0) 12 3) ((vup σ2 54 (4 * (σ 12 42)) 0) 12 5) (tE (fun q => tbk (rtx (vup σ2 54 (4 * (σ 12 42)) 0) q)) ((vup σ2 54 (4 * (σ 12 42)) 0) 12 3) ((vup σ2 54 (4 * (σ 12 42)) 0) 12 4)) σ3) => ?_
                  have T3 : rT x (qnx x.1 x.2.1 (qnx x.1 x.2.1 p)) σ3 := rT_next (rT_t T2 (by decide)) (by have := qisw_k yt17; omega) hl0 f3 t3_
                  have q3 : σ3 54 = (ful (ful (σ 54) ((4 * (σ 12 42)) + 1) (σ1 12 18)) (4 * (σ 12 42)) 0) := (f3.1 54 (by decide)).trans (vup_f.trans (congrArg (fun f => ful f (4 * (σ 12 42)) 0) q2))
                  have c3_ : σ3 12 42 = σ 12 42 := (f3.2 42 (by decide) (by decide) (by decide) (by decide) (by decide) (by decide)).trans ((congrFun (vup_fr (by decide)) 42).trans c2_)
                  have s3_ : σ3 52 = σ 52 := (f3.1 52 (by decide)).trans ((vup_fr (by decide)).trans s2_)
                  have n3_ : σ3 55 = σ 55 := (f3.1 55 (by decide)).trans ((vup_fr (by decide)).trans n2_)
                  have m3_1 : σ3 52 1 = σ 52 1 := congrFun s3_ 1
                  have m3_2 : σ3 52 2 = σ 52 2 := congrFun s3_ 2
                  refine And.intro (fun _ => ?_) (fun (q : 0 = 5) => absurd q (by decide))
                  refine And.intro (fun (q : 2 ≤ 0) => absurd q (by decide)) (fun _ => ?_)
                  refine And.intro (show -2147483648 ≤ ((4 * (σ 12 42)) + 2) ∧ ((4 * (σ 12 42)) + 2) ≤ 2147483647 from by omega) ?_
                  refine And.intro (show 0 ≤ 2 ∧ 2 < 402 from by omega) ?_
                  have w4 : σ3 55 = σ 55 := n3_
                  have z4 : (σ3 52 2) = σ 52 2 := by first | rfl | omega | exact congrFun s3_ 2
                  refine ⟨show ((0 : Int) ≤ 12 ∧ 0 ≤ (σ3 52 2)) ∧ 12 + (σ3 52 2) ≤ 48 from by omega, x, (qnx x.1 x.2.1 (qnx x.1 x.2.1 p)), T3, fun (h4 : qlf x (σ3 55) 12 ((σ3 52 2)) (qnx x.1 x.2.1 (qnx x.1 x.2.1 p)) < 0) (σ4 : vS) (fl4 : rFl x (-(qlf x (σ3 55) 12 ((σ3 52 2)) (qnx x.1 x.2.1 (qnx x.1 x.2.1 p)))) (qnx x.1 x.2.1 (qnx x.1 x.2.1 p)) σ4) (g4 : rg σ3 σ4) => ?_, fun (h4 : 0 ≤ qlf x (σ3 55) 12 ((σ3 52 2)) (qnx x.1 x.2.1 (qnx x.1 x.2.1 p))) (σ4 : vS) (T4 : rT x (qnx x.1 x.2.1 (qnx x.1 x.2.1 (qnx x.1 x.2.1 p))) σ4) (g4 : rg σ3 σ4) (v4 : σ4 12 18 = qlf x (σ3 55) 12 ((σ3 52 2)) (qnx x.1 x.2.1 (qnx x.1 x.2.1 p))) => ?_⟩
                  · rw [w4, z4] at h4 fl4
                    have q4 : σ4 54 = (ful (ful (σ 54) ((4 * (σ 12 42)) + 1) (σ1 12 18)) (4 * (σ 12 42)) 0) := (g4.1 54 (by decide)).trans q3
                    have c4_ : σ4 12 42 = σ 12 42 := (g4.2 42 (by decide) (by decide)).trans c3_
                    have s4_ : σ4 52 = σ 52 := (g4.1 52 (by decide)).trans s3_
                    have n4_ : σ4 55 = σ 55 := (g4.1 55 (by decide)).trans n3_
                    have m4_1 : σ4 52 1 = σ 52 1 := congrFun s4_ 1
                    have m4_2 : σ4 52 2 = σ 52 2 := congrFun s4_ 2
                    refine And.intro (fun (q : ¬ 0 = 0) => absurd q (by decide)) (fun _ => ?_)
                    refine And.intro (show 0 ≤ 0 ∧ 0 ≤ 1 from by omega) ?_
                    refine And.intro (fun (q : ¬ 0 = 0) => absurd q (by decide)) (fun _ => ?_)
                    refine And.intro (show 0 ≤ 0 ∧ 0 ≤ 1 from by omega) ?_
                    have hd := (qVd_9  yt17)
                    have bq := qlf_b (x := x) (nm := σ 55) (p := (qnx x.1 x.2.1 (qnx x.1 x.2.1 p))) (σ 52 2) 12 (by omega)
                    have eL : (qLn x (σ 55) (σ 52 1) (σ 52 2) (σ 12 42) p) = (-(qlf x (σ 55) 12 (σ 52 2) (qnx x.1 x.2.1 (qnx x.1 x.2.1 p))), (qnx x.1 x.2.1 (qnx x.1 x.2.1 p))) := (qLn_d hv h1 (by omega) hd (by decide)).trans (qD2_rf (by decide) h4 (by omega))
                    rw [eL] at hF
                    exact hF (by first | (show ¬ ((1 : Int) = 0); decide) | (show ¬ ((2 : Int) = 0); decide) | (show ¬ ((4 : Int) = 0); decide) | (show ¬ (-(_) = (0 : Int)); omega)) _ fl4 c4_ s4_ n4_
                  · rw [w4, z4] at h4 v4
                    have bq4 := qlf_u (x := x) (nm := σ 55) (p := (qnx x.1 x.2.1 (qnx x.1 x.2.1 p))) (m := σ 52 2) (a := 12) hm2.1 h4
                    have q4 : σ4 54 = (ful (ful (σ 54) ((4 * (σ 12 42)) + 1) (σ1 12 18)) (4 * (σ 12 42)) 0) := (g4.1 54 (by decide)).trans q3
                    have c4_ : σ4 12 42 = σ 12 42 := (g4.2 42 (by decide) (by decide)).trans c3_
                    have s4_ : σ4 52 = σ 52 := (g4.1 52 (by decide)).trans s3_
                    have n4_ : σ4 55 = σ 55 := (g4.1 55 (by decide)).trans n3_
                    have m4_1 : σ4 52 1 = σ 52 1 := congrFun s4_ 1
                    have m4_2 : σ4 52 2 = σ 52 2 := congrFun s4_ 2
                    refine And.intro (fun _ => ?_) (fun (q : 1 = 0) => absurd q (by decide))
                    refine And.intro (show 0 ≤ ((4 * (σ 12 42)) + 2) ∧ ((4 * (σ 12 42)) + 2) < 160 from by omega) ?_
                    refine And.intro (show Int.negSucc 2147483647 ≤ (σ4 12 18) ∧ (σ4 12 18) ≤ 2147483647 from rgm (by omega)) ?_
                    refine And.intro (show 0 ≤ 1 ∧ 1 ≤ 1 from by omega) ?_
                    refine And.intro (fun _ => ?_) (fun (q : 1 = 0) => absurd q (by decide))
                    refine And.intro (fun _ => ?_) (fun (q : ¬ 0 = 0) => absurd q (by decide))
                    refine And.intro (show 0 ≤ 1 ∧ 1 ≤ 1 from by omega) ?_
                    have hd := (qVd_9  yt17)
                    have eL : (qLn x (σ 55) (σ 52 1) (σ 52 2) (σ 12 42) p) = (0, (qnx x.1 x.2.1 (qnx x.1 x.2.1 (qnx x.1 x.2.1 p)))) := (qLn_d hv h1 (by omega) hd (by decide)).trans (qD2_0 h4)
                    rw [eL] at hG
                    have hR := (vup_f.trans (congrArg (fun f => ful f ((4 * (σ 12 42)) + 2) (σ4 12 18)) q4))
                    refine hG rfl (vup σ4 54 ((4 * (σ 12 42)) + 2) (σ4 12 18)) (rT_t T4 (by decide)) (fun j j0 j1 => (congrFun hR j).trans ((ful_ne (by omega)).trans ((ful_ne (by omega)).trans ((ful_ne (by omega)).trans rfl)))) (rRow_of ((congrFun hR (4 * (σ 12 42))).trans ((ful_ne (by omega)).trans ful_at)) ((congrFun hR ((4 * (σ 12 42)) + 1)).trans ((ful_ne (by omega)).trans ((ful_ne (by omega)).trans ful_at))) ((congrFun hR ((4 * (σ 12 42)) + 2)).trans ful_at) rfl (Or.inl ⟨rfl, ⟨by omega, by omega⟩, by omega, by omega⟩)) ((congrFun (vup_fr (by decide)) 42).trans c4_) ((vup_fr (by decide)).trans s4_) ((vup_fr (by decide)).trans n4_)
                · have yt17 : ¬ qisw x (qnx x.1 x.2.1 p) (qrw 9) = true := by rw [qisw_f T2 (v := qrw 9) t17]; exact Bool.false_ne_true
                  clear t17
                  refine And.intro (fun _ => ?_) (fun (q : ¬ 0 = 0) => absurd q (by decide))
                  refine fun z (t18 : (z = 1 ∧ σ2 12 11 = 1 ∧ σ2 12 17 = 495622843507) ∨ (z = 0 ∧ ¬ (σ2 12 11 = 1 ∧ σ2 12 17 = 495622843507))) => ?_
                  rcases t18 with ⟨rfl, t18⟩ | ⟨rfl, t18⟩
                  · have yt18 : qisw x (qnx x.1 x.2.1 p) (qrw 10) = true := qisw_t T2 (v := qrw 10) t18
                    clear t18
                    refine And.intro (fun (q : 1 = 0) => absurd q (by decide)) (fun _ => ?_)
                    refine And.intro (fun _ => ?_) (fun (q : 1 < 0) => absurd q (by decide))
                    refine And.intro (show 0 ≤ (4 * (σ 12 42)) ∧ (4 * (σ 12 42)) < 160 from by omega) ?_
                    refine And.intro (show Int.negSucc 2147483647 ≤ 1 ∧ 1 ≤ 2147483647 from rgm (by omega)) ?_
                    refine fun (σ3 : vS) (f3 : rfr (vup σ2 54 (4 * (σ 12 42)) 1) σ3) (t3_ : rtk (rtx (vup σ2 54 (4 * (σ 12 42)) 1)) ((vup σ2 54 (4 * (σ 12 42)) 1) 12 3) ((vup σ2 54 (4 * (σ 12 42)) 1) 12 5) (tE (fun q => tbk (rtx (vup σ2 54 (4 * (σ 12 42)) 1) q)) ((vup σ2 54 (4 * (σ 12 42)) 1) 12 3) ((vup σ2 54 (4 * (σ 12 42)) 1) 12 4)) σ3) => ?_
                    have T3 : rT x (qnx x.1 x.2.1 (qnx x.1 x.2.1 p)) σ3 := rT_next (rT_t T2 (by decide)) (by have := qisw_k yt18; omega) hl0 f3 t3_
                    have q3 : σ3 54 = (ful (ful (σ 54) ((4 * (σ 12 42)) + 1) (σ1 12 18)) (4 * (σ 12 42)) 1) := (f3.1 54 (by decide)).trans (vup_f.trans (congrArg (fun f => ful f (4 * (σ 12 42)) 1) q2))
                    have c3_ : σ3 12 42 = σ 12 42 := (f3.2 42 (by decide) (by decide) (by decide) (by decide) (by decide) (by decide)).trans ((congrFun (vup_fr (by decide)) 42).trans c2_)
                    have s3_ : σ3 52 = σ 52 := (f3.1 52 (by decide)).trans ((vup_fr (by decide)).trans s2_)
                    have n3_ : σ3 55 = σ 55 := (f3.1 55 (by decide)).trans ((vup_fr (by decide)).trans n2_)
                    have m3_1 : σ3 52 1 = σ 52 1 := congrFun s3_ 1
                    have m3_2 : σ3 52 2 = σ 52 2 := congrFun s3_ 2
                    refine And.intro (fun _ => ?_) (fun (q : 1 = 5) => absurd q (by decide))
                    refine And.intro (fun (q : 2 ≤ 1) => absurd q (by decide)) (fun _ => ?_)
                    refine And.intro (show -2147483648 ≤ ((4 * (σ 12 42)) + 2) ∧ ((4 * (σ 12 42)) + 2) ≤ 2147483647 from by omega) ?_
                    refine And.intro (show 0 ≤ 2 ∧ 2 < 402 from by omega) ?_
                    have w4 : σ3 55 = σ 55 := n3_
                    have z4 : (σ3 52 2) = σ 52 2 := by first | rfl | omega | exact congrFun s3_ 2
                    refine ⟨show ((0 : Int) ≤ 12 ∧ 0 ≤ (σ3 52 2)) ∧ 12 + (σ3 52 2) ≤ 48 from by omega, x, (qnx x.1 x.2.1 (qnx x.1 x.2.1 p)), T3, fun (h4 : qlf x (σ3 55) 12 ((σ3 52 2)) (qnx x.1 x.2.1 (qnx x.1 x.2.1 p)) < 0) (σ4 : vS) (fl4 : rFl x (-(qlf x (σ3 55) 12 ((σ3 52 2)) (qnx x.1 x.2.1 (qnx x.1 x.2.1 p)))) (qnx x.1 x.2.1 (qnx x.1 x.2.1 p)) σ4) (g4 : rg σ3 σ4) => ?_, fun (h4 : 0 ≤ qlf x (σ3 55) 12 ((σ3 52 2)) (qnx x.1 x.2.1 (qnx x.1 x.2.1 p))) (σ4 : vS) (T4 : rT x (qnx x.1 x.2.1 (qnx x.1 x.2.1 (qnx x.1 x.2.1 p))) σ4) (g4 : rg σ3 σ4) (v4 : σ4 12 18 = qlf x (σ3 55) 12 ((σ3 52 2)) (qnx x.1 x.2.1 (qnx x.1 x.2.1 p))) => ?_⟩
                    · rw [w4, z4] at h4 fl4
                      have q4 : σ4 54 = (ful (ful (σ 54) ((4 * (σ 12 42)) + 1) (σ1 12 18)) (4 * (σ 12 42)) 1) := (g4.1 54 (by decide)).trans q3
                      have c4_ : σ4 12 42 = σ 12 42 := (g4.2 42 (by decide) (by decide)).trans c3_
                      have s4_ : σ4 52 = σ 52 := (g4.1 52 (by decide)).trans s3_
                      have n4_ : σ4 55 = σ 55 := (g4.1 55 (by decide)).trans n3_
                      have m4_1 : σ4 52 1 = σ 52 1 := congrFun s4_ 1
                      have m4_2 : σ4 52 2 = σ 52 2 := congrFun s4_ 2
                      refine And.intro (fun (q : ¬ 0 = 0) => absurd q (by decide)) (fun _ => ?_)
                      refine And.intro (show 0 ≤ 0 ∧ 0 ≤ 1 from by omega) ?_
                      refine And.intro (fun (q : ¬ 0 = 0) => absurd q (by decide)) (fun _ => ?_)
                      refine And.intro (show 0 ≤ 0 ∧ 0 ≤ 1 from by omega) ?_
                      have hd := (qVd_10 yt17 yt18)
                      have bq := qlf_b (x := x) (nm := σ 55) (p := (qnx x.1 x.2.1 (qnx x.1 x.2.1 p))) (σ 52 2) 12 (by omega)
                      have eL : (qLn x (σ 55) (σ 52 1) (σ 52 2) (σ 12 42) p) = (-(qlf x (σ 55) 12 (σ 52 2) (qnx x.1 x.2.1 (qnx x.1 x.2.1 p))), (qnx x.1 x.2.1 (qnx x.1 x.2.1 p))) := (qLn_d hv h1 (by omega) hd (by decide)).trans (qD2_rf (by decide) h4 (by omega))
                      rw [eL] at hF
                      exact hF (by first | (show ¬ ((1 : Int) = 0); decide) | (show ¬ ((2 : Int) = 0); decide) | (show ¬ ((4 : Int) = 0); decide) | (show ¬ (-(_) = (0 : Int)); omega)) _ fl4 c4_ s4_ n4_
                    · rw [w4, z4] at h4 v4
                      have bq4 := qlf_u (x := x) (nm := σ 55) (p := (qnx x.1 x.2.1 (qnx x.1 x.2.1 p))) (m := σ 52 2) (a := 12) hm2.1 h4
                      have q4 : σ4 54 = (ful (ful (σ 54) ((4 * (σ 12 42)) + 1) (σ1 12 18)) (4 * (σ 12 42)) 1) := (g4.1 54 (by decide)).trans q3
                      have c4_ : σ4 12 42 = σ 12 42 := (g4.2 42 (by decide) (by decide)).trans c3_
                      have s4_ : σ4 52 = σ 52 := (g4.1 52 (by decide)).trans s3_
                      have n4_ : σ4 55 = σ 55 := (g4.1 55 (by decide)).trans n3_
                      have m4_1 : σ4 52 1 = σ 52 1 := congrFun s4_ 1
                      have m4_2 : σ4 52 2 = σ 52 2 := congrFun s4_ 2
                      refine And.intro (fun _ => ?_) (fun (q : 1 = 0) => absurd q (by decide))
                      refine And.intro (show 0 ≤ ((4 * (σ 12 42)) + 2) ∧ ((4 * (σ 12 42)) + 2) < 160 from by omega) ?_
                      refine And.intro (show Int.negSucc 2147483647 ≤ (σ4 12 18) ∧ (σ4 12 18) ≤ 2147483647 from rgm (by omega)) ?_
                      refine And.intro (show 0 ≤ 1 ∧ 1 ≤ 1 from by omega) ?_
                      refine And.intro (fun _ => ?_) (fun (q : 1 = 0) => absurd q (by decide))
                      refine And.intro (fun (q : 1 = 0) => absurd q (by decide)) (fun _ => ?_)
                      refine And.intro (show -2147483648 ≤ ((4 * (σ 12 42)) + 3) ∧ ((4 * (σ 12 42)) + 3) ≤ 2147483647 from by omega) ?_
                      refine And.intro (show 0 ≤ 1 ∧ 1 < 402 from by omega) ?_
                      have w5 : (vup σ4 54 ((4 * (σ 12 42)) + 2) (σ4 12 18)) 55 = σ 55 := ((vup_fr (by decide)).trans n4_)
                      have z5 : (σ4 52 1) = σ 52 1 := by first | rfl | omega | exact congrFun s4_ 1
                      refine ⟨show ((0 : Int) ≤ 6 ∧ 0 ≤ (σ4 52 1)) ∧ 6 + (σ4 52 1) ≤ 48 from by omega, x, (qnx x.1 x.2.1 (qnx x.1 x.2.1 (qnx x.1 x.2.1 p))), (rT_t T4 (by decide)), fun (h5 : qlf x ((vup σ4 54 ((4 * (σ 12 42)) + 2) (σ4 12 18)) 55) 6 ((σ4 52 1)) (qnx x.1 x.2.1 (qnx x.1 x.2.1 (qnx x.1 x.2.1 p))) < 0) (σ5 : vS) (fl5 : rFl x (-(qlf x ((vup σ4 54 ((4 * (σ 12 42)) + 2) (σ4 12 18)) 55) 6 ((σ4 52 1)) (qnx x.1 x.2.1 (qnx x.1 x.2.1 (qnx x.1 x.2.1 p))))) (qnx x.1 x.2.1 (qnx x.1 x.2.1 (qnx x.1 x.2.1 p))) σ5) (g5 : rg (vup σ4 54 ((4 * (σ 12 42)) + 2) (σ4 12 18)) σ5) => ?_, fun (h5 : 0 ≤ qlf x ((vup σ4 54 ((4 * (σ 12 42)) + 2) (σ4 12 18)) 55) 6 ((σ4 52 1)) (qnx x.1 x.2.1 (qnx x.1 x.2.1 (qnx x.1 x.2.1 p)))) (σ5 : vS) (T5 : rT x (qnx x.1 x.2.1 (qnx x.1 x.2.1 (qnx x.1 x.2.1 (qnx x.1 x.2.1 p)))) σ5) (g5 : rg (vup σ4 54 ((4 * (σ 12 42)) + 2) (σ4 12 18)) σ5) (v5 : σ5 12 18 = qlf x ((vup σ4 54 ((4 * (σ 12 42)) + 2) (σ4 12 18)) 55) 6 ((σ4 52 1)) (qnx x.1 x.2.1 (qnx x.1 x.2.1 (qnx x.1 x.2.1 p)))) => ?_⟩
                      · rw [w5, z5] at h5 fl5
                        have q5 : σ5 54 = (ful (ful (ful (σ 54) ((4 * (σ 12 42)) + 1) (σ1 12 18)) (4 * (σ 12 42)) 1) ((4 * (σ 12 42)) + 2) (σ4 12 18)) := (g5.1 54 (by decide)).trans (vup_f.trans (congrArg (fun f => ful f ((4 * (σ 12 42)) + 2) (σ4 12 18)) q4))
                        have c5_ : σ5 12 42 = σ 12 42 := (g5.2 42 (by decide) (by decide)).trans ((congrFun (vup_fr (by decide)) 42).trans c4_)
                        have s5_ : σ5 52 = σ 52 := (g5.1 52 (by decide)).trans ((vup_fr (by decide)).trans s4_)
                        have n5_ : σ5 55 = σ 55 := (g5.1 55 (by decide)).trans ((vup_fr (by decide)).trans n4_)
                        have m5_1 : σ5 52 1 = σ 52 1 := congrFun s5_ 1
                        have m5_2 : σ5 52 2 = σ 52 2 := congrFun s5_ 2
                        refine And.intro (fun (q : ¬ 0 = 0) => absurd q (by decide)) (fun _ => ?_)
                        refine And.intro (show 0 ≤ 0 ∧ 0 ≤ 1 from by omega) ?_
                        refine And.intro (fun _ => ?_) (fun (q : ¬ 0 = 0) => absurd q (by decide))
                        refine And.intro (show 0 ≤ 0 ∧ 0 ≤ 1 from by omega) ?_
                        have hd := (qVd_10 yt17 yt18)
                        have bq := qlf_b (x := x) (nm := σ 55) (p := (qnx x.1 x.2.1 (qnx x.1 x.2.1 (qnx x.1 x.2.1 p)))) (σ 52 1) 6 (by omega)
                        have eL : (qLn x (σ 55) (σ 52 1) (σ 52 2) (σ 12 42) p) = (-(qlf x (σ 55) 6 (σ 52 1) (qnx x.1 x.2.1 (qnx x.1 x.2.1 (qnx x.1 x.2.1 p)))), (qnx x.1 x.2.1 (qnx x.1 x.2.1 (qnx x.1 x.2.1 p)))) := (qLn_d hv h1 (by omega) hd (by decide)).trans ((qD2_1 h4).trans (qOw_f h5))
                        rw [eL] at hF
                        exact hF (by first | (show ¬ ((1 : Int) = 0); decide) | (show ¬ ((2 : Int) = 0); decide) | (show ¬ ((4 : Int) = 0); decide) | (show ¬ (-(_) = (0 : Int)); omega)) _ fl5 c5_ s5_ n5_
                      · rw [w5, z5] at h5 v5
                        have bq5 := qlf_u (x := x) (nm := σ 55) (p := (qnx x.1 x.2.1 (qnx x.1 x.2.1 (qnx x.1 x.2.1 p)))) (m := σ 52 1) (a := 6) hm1.1 h5
                        have q5 : σ5 54 = (ful (ful (ful (σ 54) ((4 * (σ 12 42)) + 1) (σ1 12 18)) (4 * (σ 12 42)) 1) ((4 * (σ 12 42)) + 2) (σ4 12 18)) := (g5.1 54 (by decide)).trans (vup_f.trans (congrArg (fun f => ful f ((4 * (σ 12 42)) + 2) (σ4 12 18)) q4))
                        have c5_ : σ5 12 42 = σ 12 42 := (g5.2 42 (by decide) (by decide)).trans ((congrFun (vup_fr (by decide)) 42).trans c4_)
                        have s5_ : σ5 52 = σ 52 := (g5.1 52 (by decide)).trans ((vup_fr (by decide)).trans s4_)
                        have n5_ : σ5 55 = σ 55 := (g5.1 55 (by decide)).trans ((vup_fr (by decide)).trans n4_)
                        have m5_1 : σ5 52 1 = σ 52 1 := congrFun s5_ 1
                        have m5_2 : σ5 52 2 = σ 52 2 := congrFun s5_ 2
                        refine And.intro (fun _ => ?_) (fun (q : 1 = 0) => absurd q (by decide))
                        refine And.intro (show 0 ≤ ((4 * (σ 12 42)) + 3) ∧ ((4 * (σ 12 42)) + 3) < 160 from by omega) ?_
                        refine And.intro (show Int.negSucc 2147483647 ≤ (σ5 12 18) ∧ (σ5 12 18) ≤ 2147483647 from rgm (by omega)) ?_
                        refine And.intro (show 0 ≤ 1 ∧ 1 ≤ 1 from by omega) ?_
                        refine And.intro (fun (q : 1 = 0) => absurd q (by decide)) (fun _ => ?_)
                        refine And.intro (show 0 ≤ 1 ∧ 1 ≤ 1 from by omega) ?_
                        have hd := (qVd_10 yt17 yt18)
                        have eL : (qLn x (σ 55) (σ 52 1) (σ 52 2) (σ 12 42) p) = (0, (qnx x.1 x.2.1 (qnx x.1 x.2.1 (qnx x.1 x.2.1 (qnx x.1 x.2.1 p))))) := (qLn_d hv h1 (by omega) hd (by decide)).trans ((qD2_1 h4).trans (qOw_s h5))
                        rw [eL] at hG
                        have hR := (vup_f.trans (congrArg (fun f => ful f ((4 * (σ 12 42)) + 3) (σ5 12 18)) q5))
                        refine hG rfl (vup σ5 54 ((4 * (σ 12 42)) + 3) (σ5 12 18)) (rT_t T5 (by decide)) (fun j j0 j1 => (congrFun hR j).trans ((ful_ne (by omega)).trans ((ful_ne (by omega)).trans ((ful_ne (by omega)).trans ((ful_ne (by omega)).trans rfl))))) (rRow_of ((congrFun hR (4 * (σ 12 42))).trans ((ful_ne (by omega)).trans ((ful_ne (by omega)).trans ful_at))) ((congrFun hR ((4 * (σ 12 42)) + 1)).trans ((ful_ne (by omega)).trans ((ful_ne (by omega)).trans ((ful_ne (by omega)).trans ful_at)))) ((congrFun hR ((4 * (σ 12 42)) + 2)).trans ((ful_ne (by omega)).trans ful_at)) ((congrFun hR ((4 * (σ 12 42)) + 3)).trans ful_at) (Or.inr (Or.inl ⟨rfl, ⟨by omega, by omega⟩, ⟨by omega, by omega⟩, by omega, by omega⟩))) ((congrFun (vup_fr (by decide)) 42).trans c5_) ((vup_fr (by decide)).trans s5_) ((vup_fr (by decide)).trans n5_)
                  · have yt18 : ¬ qisw x (qnx x.1 x.2.1 p) (qrw 10) = true := by rw [qisw_f T2 (v := qrw 10) t18]; exact Bool.false_ne_true
                    clear t18
                    refine And.intro (fun _ => ?_) (fun (q : ¬ 0 = 0) => absurd q (by decide))
                    refine fun z (t19 : (z = 1 ∧ σ2 12 11 = 1 ∧ σ2 12 17 = 1818588275) ∨ (z = 0 ∧ ¬ (σ2 12 11 = 1 ∧ σ2 12 17 = 1818588275))) => ?_
                    rcases t19 with ⟨rfl, t19⟩ | ⟨rfl, t19⟩
                    · have yt19 : qisw x (qnx x.1 x.2.1 p) (qrw 11) = true := qisw_t T2 (v := qrw 11) t19
                      clear t19
                      refine And.intro (fun (q : 1 = 0) => absurd q (by decide)) (fun _ => ?_)
                      refine And.intro (fun _ => ?_) (fun (q : 2 < 0) => absurd q (by decide))
                      refine And.intro (show 0 ≤ (4 * (σ 12 42)) ∧ (4 * (σ 12 42)) < 160 from by omega) ?_
                      refine And.intro (show Int.negSucc 2147483647 ≤ 2 ∧ 2 ≤ 2147483647 from rgm (by omega)) ?_
                      refine fun (σ3 : vS) (f3 : rfr (vup σ2 54 (4 * (σ 12 42)) 2) σ3) (t3_ : rtk (rtx (vup σ2 54 (4 * (σ 12 42)) 2)) ((vup σ2 54 (4 * (σ 12 42)) 2) 12 3) ((vup σ2 54 (4 * (σ 12 42)) 2) 12 5) (tE (fun q => tbk (rtx (vup σ2 54 (4 * (σ 12 42)) 2) q)) ((vup σ2 54 (4 * (σ 12 42)) 2) 12 3) ((vup σ2 54 (4 * (σ 12 42)) 2) 12 4)) σ3) => ?_
                      have T3 : rT x (qnx x.1 x.2.1 (qnx x.1 x.2.1 p)) σ3 := rT_next (rT_t T2 (by decide)) (by have := qisw_k yt19; omega) hl0 f3 t3_
                      have q3 : σ3 54 = (ful (ful (σ 54) ((4 * (σ 12 42)) + 1) (σ1 12 18)) (4 * (σ 12 42)) 2) := (f3.1 54 (by decide)).trans (vup_f.trans (congrArg (fun f => ful f (4 * (σ 12 42)) 2) q2))
                      have c3_ : σ3 12 42 = σ 12 42 := (f3.2 42 (by decide) (by decide) (by decide) (by decide) (by decide) (by decide)).trans ((congrFun (vup_fr (by decide)) 42).trans c2_)
                      have s3_ : σ3 52 = σ 52 := (f3.1 52 (by decide)).trans ((vup_fr (by decide)).trans s2_)
                      have n3_ : σ3 55 = σ 55 := (f3.1 55 (by decide)).trans ((vup_fr (by decide)).trans n2_)
                      have m3_1 : σ3 52 1 = σ 52 1 := congrFun s3_ 1
                      have m3_2 : σ3 52 2 = σ 52 2 := congrFun s3_ 2
                      refine And.intro (fun _ => ?_) (fun (q : 2 = 5) => absurd q (by decide))
                      refine And.intro (fun _ => ?_) (fun (q : 2 < 2) => absurd q (by decide))
                      refine And.intro (fun (q : 2 = 0) => absurd q (by decide)) (fun _ => ?_)
                      refine And.intro (show -2147483648 ≤ ((4 * (σ 12 42)) + 3) ∧ ((4 * (σ 12 42)) + 3) ≤ 2147483647 from by omega) ?_
                      refine And.intro (show 0 ≤ 1 ∧ 1 < 402 from by omega) ?_
                      have w4 : σ3 55 = σ 55 := n3_
                      have z4 : (σ3 52 1) = σ 52 1 := by first | rfl | omega | exact congrFun s3_ 1
                      refine ⟨show ((0 : Int) ≤ 6 ∧ 0 ≤ (σ3 52 1)) ∧ 6 + (σ3 52 1) ≤ 48 from by omega, x, (qnx x.1 x.2.1 (qnx x.1 x.2.1 p)), T3, fun (h4 : qlf x (σ3 55) 6 ((σ3 52 1)) (qnx x.1 x.2.1 (qnx x.1 x.2.1 p)) < 0) (σ4 : vS) (fl4 : rFl x (-(qlf x (σ3 55) 6 ((σ3 52 1)) (qnx x.1 x.2.1 (qnx x.1 x.2.1 p)))) (qnx x.1 x.2.1 (qnx x.1 x.2.1 p)) σ4) (g4 : rg σ3 σ4) => ?_, fun (h4 : 0 ≤ qlf x (σ3 55) 6 ((σ3 52 1)) (qnx x.1 x.2.1 (qnx x.1 x.2.1 p))) (σ4 : vS) (T4 : rT x (qnx x.1 x.2.1 (qnx x.1 x.2.1 (qnx x.1 x.2.1 p))) σ4) (g4 : rg σ3 σ4) (v4 : σ4 12 18 = qlf x (σ3 55) 6 ((σ3 52 1)) (qnx x.1 x.2.1 (qnx x.1 x.2.1 p))) => ?_⟩
                      · rw [w4, z4] at h4 fl4
                        have q4 : σ4 54 = (ful (ful (σ 54) ((4 * (σ 12 42)) + 1) (σ1 12 18)) (4 * (σ 12 42)) 2) := (g4.1 54 (by decide)).trans q3
                        have c4_ : σ4 12 42 = σ 12 42 := (g4.2 42 (by decide) (by decide)).trans c3_
                        have s4_ : σ4 52 = σ 52 := (g4.1 52 (by decide)).trans s3_
                        have n4_ : σ4 55 = σ 55 := (g4.1 55 (by decide)).trans n3_
                        have m4_1 : σ4 52 1 = σ 52 1 := congrFun s4_ 1
                        have m4_2 : σ4 52 2 = σ 52 2 := congrFun s4_ 2
                        refine And.intro (fun (q : ¬ 0 = 0) => absurd q (by decide)) (fun _ => ?_)
                        refine And.intro (show 0 ≤ 0 ∧ 0 ≤ 1 from by omega) ?_
                        refine And.intro (fun _ => ?_) (fun (q : ¬ 0 = 0) => absurd q (by decide))
                        refine And.intro (show 0 ≤ 0 ∧ 0 ≤ 1 from by omega) ?_
                        have hd := (qVd_11 yt17 yt18 yt19)
                        have bq := qlf_b (x := x) (nm := σ 55) (p := (qnx x.1 x.2.1 (qnx x.1 x.2.1 p))) (σ 52 1) 6 (by omega)
                        have eL : (qLn x (σ 55) (σ 52 1) (σ 52 2) (σ 12 42) p) = (-(qlf x (σ 55) 6 (σ 52 1) (qnx x.1 x.2.1 (qnx x.1 x.2.1 p))), (qnx x.1 x.2.1 (qnx x.1 x.2.1 p))) := (qLn_d hv h1 (by omega) hd (by decide)).trans ((qD2_o (by decide)).trans (qOw_f h4))
                        rw [eL] at hF
                        exact hF (by first | (show ¬ ((1 : Int) = 0); decide) | (show ¬ ((2 : Int) = 0); decide) | (show ¬ ((4 : Int) = 0); decide) | (show ¬ (-(_) = (0 : Int)); omega)) _ fl4 c4_ s4_ n4_
                      · rw [w4, z4] at h4 v4
                        have bq4 := qlf_u (x := x) (nm := σ 55) (p := (qnx x.1 x.2.1 (qnx x.1 x.2.1 p))) (m := σ 52 1) (a := 6) hm1.1 h4
                        have q4 : σ4 54 = (ful (ful (σ 54) ((4 * (σ 12 42)) + 1) (σ1 12 18)) (4 * (σ 12 42)) 2) := (g4.1 54 (by decide)).trans q3
                        have c4_ : σ4 12 42 = σ 12 42 := (g4.2 42 (by decide) (by decide)).trans c3_
                        have s4_ : σ4 52 = σ 52 := (g4.1 52 (by decide)).trans s3_
                        have n4_ : σ4 55 = σ 55 := (g4.1 55 (by decide)).trans n3_
                        have m4_1 : σ4 52 1 = σ 52 1 := congrFun s4_ 1
                        have m4_2 : σ4 52 2 = σ 52 2 := congrFun s4_ 2
                        refine And.intro (fun _ => ?_) (fun (q : 1 = 0) => absurd q (by decide))
                        refine And.intro (show 0 ≤ ((4 * (σ 12 42)) + 3) ∧ ((4 * (σ 12 42)) + 3) < 160 from by omega) ?_
                        refine And.intro (show Int.negSucc 2147483647 ≤ (σ4 12 18) ∧ (σ4 12 18) ≤ 2147483647 from rgm (by omega)) ?_
                        refine And.intro (show 0 ≤ 1 ∧ 1 ≤ 1 from by omega) ?_
                        refine And.intro (fun (q : 1 = 0) => absurd q (by decide)) (fun _ => ?_)
                        refine And.intro (show 0 ≤ 1 ∧ 1 ≤ 1 from by omega) ?_
                        have hd := (qVd_11 yt17 yt18 yt19)
                        have eL : (qLn x (σ 55) (σ 52 1) (σ 52 2) (σ 12 42) p) = (0, (qnx x.1 x.2.1 (qnx x.1 x.2.1 (qnx x.1 x.2.1 p)))) := (qLn_d hv h1 (by omega) hd (by decide)).trans ((qD2_o (by decide)).trans (qOw_s h4))
                        rw [eL] at hG
                        have hR := (vup_f.trans (congrArg (fun f => ful f ((4 * (σ 12 42)) + 3) (σ4 12 18)) q4))
                        refine hG rfl (vup σ4 54 ((4 * (σ 12 42)) + 3) (σ4 12 18)) (rT_t T4 (by decide)) (fun j j0 j1 => (congrFun hR j).trans ((ful_ne (by omega)).trans ((ful_ne (by omega)).trans ((ful_ne (by omega)).trans rfl)))) (rRow_of ((congrFun hR (4 * (σ 12 42))).trans ((ful_ne (by omega)).trans ful_at)) ((congrFun hR ((4 * (σ 12 42)) + 1)).trans ((ful_ne (by omega)).trans ((ful_ne (by omega)).trans ful_at))) rfl ((congrFun hR ((4 * (σ 12 42)) + 3)).trans ful_at) (Or.inr (Or.inr (Or.inl ⟨⟨by decide, by decide⟩, ⟨by omega, by omega⟩, by omega, by omega⟩)))) ((congrFun (vup_fr (by decide)) 42).trans c4_) ((vup_fr (by decide)).trans s4_) ((vup_fr (by decide)).trans n4_)
                    · have yt19 : ¬ qisw x (qnx x.1 x.2.1 p) (qrw 11) = true := by rw [qisw_f T2 (v := qrw 11) t19]; exact Bool.false_ne_true
                      clear t19
                      refine And.intro (fun _ => ?_) (fun (q : ¬ 0 = 0) => absurd q (by decide))
                      refine fun z (t20 : (z = 1 ∧ σ2 12 11 = 1 ∧ σ2 12 17 = 1650553459) ∨ (z = 0 ∧ ¬ (σ2 12 11 = 1 ∧ σ2 12 17 = 1650553459))) => ?_
                      rcases t20 with ⟨rfl, t20⟩ | ⟨rfl, t20⟩
                      · have yt20 : qisw x (qnx x.1 x.2.1 p) (qrw 12) = true := qisw_t T2 (v := qrw 12) t20
                        clear t20
                        refine And.intro (fun (q : 1 = 0) => absurd q (by decide)) (fun _ => ?_)
                        refine And.intro (fun _ => ?_) (fun (q : 3 < 0) => absurd q (by decide))
                        refine And.intro (show 0 ≤ (4 * (σ 12 42)) ∧ (4 * (σ 12 42)) < 160 from by omega) ?_
                        refine And.intro (show Int.negSucc 2147483647 ≤ 3 ∧ 3 ≤ 2147483647 from rgm (by omega)) ?_
                        refine fun (σ3 : vS) (f3 : rfr (vup σ2 54 (4 * (σ 12 42)) 3) σ3) (t3_ : rtk (rtx (vup σ2 54 (4 * (σ 12 42)) 3)) ((vup σ2 54 (4 * (σ 12 42)) 3) 12 3) ((vup σ2 54 (4 * (σ 12 42)) 3) 12 5) (tE (fun q => tbk (rtx (vup σ2 54 (4 * (σ 12 42)) 3) q)) ((vup σ2 54 (4 * (σ 12 42)) 3) 12 3) ((vup σ2 54 (4 * (σ 12 42)) 3) 12 4)) σ3) => ?_
                        have T3 : rT x (qnx x.1 x.2.1 (qnx x.1 x.2.1 p)) σ3 := rT_next (rT_t T2 (by decide)) (by have := qisw_k yt20; omega) hl0 f3 t3_
                        have q3 : σ3 54 = (ful (ful (σ 54) ((4 * (σ 12 42)) + 1) (σ1 12 18)) (4 * (σ 12 42)) 3) := (f3.1 54 (by decide)).trans (vup_f.trans (congrArg (fun f => ful f (4 * (σ 12 42)) 3) q2))
                        have c3_ : σ3 12 42 = σ 12 42 := (f3.2 42 (by decide) (by decide) (by decide) (by decide) (by decide) (by decide)).trans ((congrFun (vup_fr (by decide)) 42).trans c2_)
                        have s3_ : σ3 52 = σ 52 := (f3.1 52 (by decide)).trans ((vup_fr (by decide)).trans s2_)
                        have n3_ : σ3 55 = σ 55 := (f3.1 55 (by decide)).trans ((vup_fr (by decide)).trans n2_)
                        have m3_1 : σ3 52 1 = σ 52 1 := congrFun s3_ 1
                        have m3_2 : σ3 52 2 = σ 52 2 := congrFun s3_ 2
                        refine And.intro (fun _ => ?_) (fun (q : 3 = 5) => absurd q (by decide))
                        refine And.intro (fun _ => ?_) (fun (q : 3 < 2) => absurd q (by decide))
                        refine And.intro (fun (q : 3 = 0) => absurd q (by decide)) (fun _ => ?_)
                        refine And.intro (show -2147483648 ≤ ((4 * (σ 12 42)) + 3) ∧ ((4 * (σ 12 42)) + 3) ≤ 2147483647 from by omega) ?_
                        refine And.intro (show 0 ≤ 1 ∧ 1 < 402 from by omega) ?_
                        have w4 : σ3 55 = σ 55 := n3_
                        have z4 : (σ3 52 1) = σ 52 1 := by first | rfl | omega | exact congrFun s3_ 1
                        refine ⟨show ((0 : Int) ≤ 6 ∧ 0 ≤ (σ3 52 1)) ∧ 6 + (σ3 52 1) ≤ 48 from by omega, x, (qnx x.1 x.2.1 (qnx x.1 x.2.1 p)), T3, fun (h4 : qlf x (σ3 55) 6 ((σ3 52 1)) (qnx x.1 x.2.1 (qnx x.1 x.2.1 p)) < 0) (σ4 : vS) (fl4 : rFl x (-(qlf x (σ3 55) 6 ((σ3 52 1)) (qnx x.1 x.2.1 (qnx x.1 x.2.1 p)))) (qnx x.1 x.2.1 (qnx x.1 x.2.1 p)) σ4) (g4 : rg σ3 σ4) => ?_, fun (h4 : 0 ≤ qlf x (σ3 55) 6 ((σ3 52 1)) (qnx x.1 x.2.1 (qnx x.1 x.2.1 p))) (σ4 : vS) (T4 : rT x (qnx x.1 x.2.1 (qnx x.1 x.2.1 (qnx x.1 x.2.1 p))) σ4) (g4 : rg σ3 σ4) (v4 : σ4 12 18 = qlf x (σ3 55) 6 ((σ3 52 1)) (qnx x.1 x.2.1 (qnx x.1 x.2.1 p))) => ?_⟩
                        · rw [w4, z4] at h4 fl4
                          have q4 : σ4 54 = (ful (ful (σ 54) ((4 * (σ 12 42)) + 1) (σ1 12 18)) (4 * (σ 12 42)) 3) := (g4.1 54 (by decide)).trans q3
                          have c4_ : σ4 12 42 = σ 12 42 := (g4.2 42 (by decide) (by decide)).trans c3_
                          have s4_ : σ4 52 = σ 52 := (g4.1 52 (by decide)).trans s3_
                          have n4_ : σ4 55 = σ 55 := (g4.1 55 (by decide)).trans n3_
                          have m4_1 : σ4 52 1 = σ 52 1 := congrFun s4_ 1
                          have m4_2 : σ4 52 2 = σ 52 2 := congrFun s4_ 2
                          refine And.intro (fun (q : ¬ 0 = 0) => absurd q (by decide)) (fun _ => ?_)
                          refine And.intro (show 0 ≤ 0 ∧ 0 ≤ 1 from by omega) ?_
                          refine And.intro (fun _ => ?_) (fun (q : ¬ 0 = 0) => absurd q (by decide))
                          refine And.intro (show 0 ≤ 0 ∧ 0 ≤ 1 from by omega) ?_
                          have hd := (qVd_12 yt17 yt18 yt19 yt20)
                          have bq := qlf_b (x := x) (nm := σ 55) (p := (qnx x.1 x.2.1 (qnx x.1 x.2.1 p))) (σ 52 1) 6 (by omega)
                          have eL : (qLn x (σ 55) (σ 52 1) (σ 52 2) (σ 12 42) p) = (-(qlf x (σ 55) 6 (σ 52 1) (qnx x.1 x.2.1 (qnx x.1 x.2.1 p))), (qnx x.1 x.2.1 (qnx x.1 x.2.1 p))) := (qLn_d hv h1 (by omega) hd (by decide)).trans ((qD2_o (by decide)).trans (qOw_f h4))
                          rw [eL] at hF
                          exact hF (by first | (show ¬ ((1 : Int) = 0); decide) | (show ¬ ((2 : Int) = 0); decide) | (show ¬ ((4 : Int) = 0); decide) | (show ¬ (-(_) = (0 : Int)); omega)) _ fl4 c4_ s4_ n4_
                        · rw [w4, z4] at h4 v4
                          have bq4 := qlf_u (x := x) (nm := σ 55) (p := (qnx x.1 x.2.1 (qnx x.1 x.2.1 p))) (m := σ 52 1) (a := 6) hm1.1 h4
                          have q4 : σ4 54 = (ful (ful (σ 54) ((4 * (σ 12 42)) + 1) (σ1 12 18)) (4 * (σ 12 42)) 3) := (g4.1 54 (by decide)).trans q3
                          have c4_ : σ4 12 42 = σ 12 42 := (g4.2 42 (by decide) (by decide)).trans c3_
                          have s4_ : σ4 52 = σ 52 := (g4.1 52 (by decide)).trans s3_
                          have n4_ : σ4 55 = σ 55 := (g4.1 55 (by decide)).trans n3_
                          have m4_1 : σ4 52 1 = σ 52 1 := congrFun s4_ 1
                          have m4_2 : σ4 52 2 = σ 52 2 := congrFun s4_ 2
                          refine And.intro (fun _ => ?_) (fun (q : 1 = 0) => absurd q (by decide))
                          refine And.intro (show 0 ≤ ((4 * (σ 12 42)) + 3) ∧ ((4 * (σ 12 42)) + 3) < 160 from by omega) ?_
                          refine And.intro (show Int.negSucc 2147483647 ≤ (σ4 12 18) ∧ (σ4 12 18) ≤ 2147483647 from rgm (by omega)) ?_
                          refine And.intro (show 0 ≤ 1 ∧ 1 ≤ 1 from by omega) ?_
                          refine And.intro (fun (q : 1 = 0) => absurd q (by decide)) (fun _ => ?_)
                          refine And.intro (show 0 ≤ 1 ∧ 1 ≤ 1 from by omega) ?_
                          have hd := (qVd_12 yt17 yt18 yt19 yt20)
                          have eL : (qLn x (σ 55) (σ 52 1) (σ 52 2) (σ 12 42) p) = (0, (qnx x.1 x.2.1 (qnx x.1 x.2.1 (qnx x.1 x.2.1 p)))) := (qLn_d hv h1 (by omega) hd (by decide)).trans ((qD2_o (by decide)).trans (qOw_s h4))
                          rw [eL] at hG
                          have hR := (vup_f.trans (congrArg (fun f => ful f ((4 * (σ 12 42)) + 3) (σ4 12 18)) q4))
                          refine hG rfl (vup σ4 54 ((4 * (σ 12 42)) + 3) (σ4 12 18)) (rT_t T4 (by decide)) (fun j j0 j1 => (congrFun hR j).trans ((ful_ne (by omega)).trans ((ful_ne (by omega)).trans ((ful_ne (by omega)).trans rfl)))) (rRow_of ((congrFun hR (4 * (σ 12 42))).trans ((ful_ne (by omega)).trans ful_at)) ((congrFun hR ((4 * (σ 12 42)) + 1)).trans ((ful_ne (by omega)).trans ((ful_ne (by omega)).trans ful_at))) rfl ((congrFun hR ((4 * (σ 12 42)) + 3)).trans ful_at) (Or.inr (Or.inr (Or.inl ⟨⟨by decide, by decide⟩, ⟨by omega, by omega⟩, by omega, by omega⟩)))) ((congrFun (vup_fr (by decide)) 42).trans c4_) ((vup_fr (by decide)).trans s4_) ((vup_fr (by decide)).trans n4_)
                      · have yt20 : ¬ qisw x (qnx x.1 x.2.1 p) (qrw 12) = true := by rw [qisw_f T2 (v := qrw 12) t20]; exact Bool.false_ne_true
                        clear t20
                        refine And.intro (fun _ => ?_) (fun (q : ¬ 0 = 0) => absurd q (by decide))
                        refine fun z (t21 : (z = 1 ∧ σ2 12 11 = 1 ∧ σ2 12 17 = 512869821555) ∨ (z = 0 ∧ ¬ (σ2 12 11 = 1 ∧ σ2 12 17 = 512869821555))) => ?_
                        rcases t21 with ⟨rfl, t21⟩ | ⟨rfl, t21⟩
                        · have yt21 : qisw x (qnx x.1 x.2.1 p) (qrw 14) = true := qisw_t T2 (v := qrw 14) t21
                          clear t21
                          refine And.intro (fun (q : 1 = 0) => absurd q (by decide)) (fun _ => ?_)
                          refine And.intro (fun _ => ?_) (fun (q : 4 < 0) => absurd q (by decide))
                          refine And.intro (show 0 ≤ (4 * (σ 12 42)) ∧ (4 * (σ 12 42)) < 160 from by omega) ?_
                          refine And.intro (show Int.negSucc 2147483647 ≤ 4 ∧ 4 ≤ 2147483647 from rgm (by omega)) ?_
                          refine fun (σ3 : vS) (f3 : rfr (vup σ2 54 (4 * (σ 12 42)) 4) σ3) (t3_ : rtk (rtx (vup σ2 54 (4 * (σ 12 42)) 4)) ((vup σ2 54 (4 * (σ 12 42)) 4) 12 3) ((vup σ2 54 (4 * (σ 12 42)) 4) 12 5) (tE (fun q => tbk (rtx (vup σ2 54 (4 * (σ 12 42)) 4) q)) ((vup σ2 54 (4 * (σ 12 42)) 4) 12 3) ((vup σ2 54 (4 * (σ 12 42)) 4) 12 4)) σ3) => ?_
                          have T3 : rT x (qnx x.1 x.2.1 (qnx x.1 x.2.1 p)) σ3 := rT_next (rT_t T2 (by decide)) (by have := qisw_k yt21; omega) hl0 f3 t3_
                          have q3 : σ3 54 = (ful (ful (σ 54) ((4 * (σ 12 42)) + 1) (σ1 12 18)) (4 * (σ 12 42)) 4) := (f3.1 54 (by decide)).trans (vup_f.trans (congrArg (fun f => ful f (4 * (σ 12 42)) 4) q2))
                          have c3_ : σ3 12 42 = σ 12 42 := (f3.2 42 (by decide) (by decide) (by decide) (by decide) (by decide) (by decide)).trans ((congrFun (vup_fr (by decide)) 42).trans c2_)
                          have s3_ : σ3 52 = σ 52 := (f3.1 52 (by decide)).trans ((vup_fr (by decide)).trans s2_)
                          have n3_ : σ3 55 = σ 55 := (f3.1 55 (by decide)).trans ((vup_fr (by decide)).trans n2_)
                          have m3_1 : σ3 52 1 = σ 52 1 := congrFun s3_ 1
                          have m3_2 : σ3 52 2 = σ 52 2 := congrFun s3_ 2
                          refine And.intro (fun _ => ?_) (fun (q : 4 = 5) => absurd q (by decide))
                          refine And.intro (fun _ => ?_) (fun (q : 4 < 2) => absurd q (by decide))
                          refine And.intro (fun (q : 4 = 0) => absurd q (by decide)) (fun _ => ?_)
                          refine And.intro (show -2147483648 ≤ ((4 * (σ 12 42)) + 3) ∧ ((4 * (σ 12 42)) + 3) ≤ 2147483647 from by omega) ?_
                          refine And.intro (show 0 ≤ 1 ∧ 1 < 402 from by omega) ?_
                          have w4 : σ3 55 = σ 55 := n3_
                          have z4 : (σ3 52 1) = σ 52 1 := by first | rfl | omega | exact congrFun s3_ 1
                          refine ⟨show ((0 : Int) ≤ 6 ∧ 0 ≤ (σ3 52 1)) ∧ 6 + (σ3 52 1) ≤ 48 from by omega, x, (qnx x.1 x.2.1 (qnx x.1 x.2.1 p)), T3, fun (h4 : qlf x (σ3 55) 6 ((σ3 52 1)) (qnx x.1 x.2.1 (qnx x.1 x.2.1 p)) < 0) (σ4 : vS) (fl4 : rFl x (-(qlf x (σ3 55) 6 ((σ3 52 1)) (qnx x.1 x.2.1 (qnx x.1 x.2.1 p)))) (qnx x.1 x.2.1 (qnx x.1 x.2.1 p)) σ4) (g4 : rg σ3 σ4) => ?_, fun (h4 : 0 ≤ qlf x (σ3 55) 6 ((σ3 52 1)) (qnx x.1 x.2.1 (qnx x.1 x.2.1 p))) (σ4 : vS) (T4 : rT x (qnx x.1 x.2.1 (qnx x.1 x.2.1 (qnx x.1 x.2.1 p))) σ4) (g4 : rg σ3 σ4) (v4 : σ4 12 18 = qlf x (σ3 55) 6 ((σ3 52 1)) (qnx x.1 x.2.1 (qnx x.1 x.2.1 p))) => ?_⟩
                          · rw [w4, z4] at h4 fl4
                            have q4 : σ4 54 = (ful (ful (σ 54) ((4 * (σ 12 42)) + 1) (σ1 12 18)) (4 * (σ 12 42)) 4) := (g4.1 54 (by decide)).trans q3
                            have c4_ : σ4 12 42 = σ 12 42 := (g4.2 42 (by decide) (by decide)).trans c3_
                            have s4_ : σ4 52 = σ 52 := (g4.1 52 (by decide)).trans s3_
                            have n4_ : σ4 55 = σ 55 := (g4.1 55 (by decide)).trans n3_
                            have m4_1 : σ4 52 1 = σ 52 1 := congrFun s4_ 1
                            have m4_2 : σ4 52 2 = σ 52 2 := congrFun s4_ 2
                            refine And.intro (fun (q : ¬ 0 = 0) => absurd q (by decide)) (fun _ => ?_)
                            refine And.intro (show 0 ≤ 0 ∧ 0 ≤ 1 from by omega) ?_
                            refine And.intro (fun _ => ?_) (fun (q : ¬ 0 = 0) => absurd q (by decide))
                            refine And.intro (show 0 ≤ 0 ∧ 0 ≤ 1 from by omega) ?_
                            have hd := (qVd_14 yt17 yt18 yt19 yt20 yt21)
                            have bq := qlf_b (x := x) (nm := σ 55) (p := (qnx x.1 x.2.1 (qnx x.1 x.2.1 p))) (σ 52 1) 6 (by omega)
                            have eL : (qLn x (σ 55) (σ 52 1) (σ 52 2) (σ 12 42) p) = (-(qlf x (σ 55) 6 (σ 52 1) (qnx x.1 x.2.1 (qnx x.1 x.2.1 p))), (qnx x.1 x.2.1 (qnx x.1 x.2.1 p))) := (qLn_d hv h1 (by omega) hd (by decide)).trans ((qD2_o (by decide)).trans (qOw_f h4))
                            rw [eL] at hF
                            exact hF (by first | (show ¬ ((1 : Int) = 0); decide) | (show ¬ ((2 : Int) = 0); decide) | (show ¬ ((4 : Int) = 0); decide) | (show ¬ (-(_) = (0 : Int)); omega)) _ fl4 c4_ s4_ n4_
                          · rw [w4, z4] at h4 v4
                            have bq4 := qlf_u (x := x) (nm := σ 55) (p := (qnx x.1 x.2.1 (qnx x.1 x.2.1 p))) (m := σ 52 1) (a := 6) hm1.1 h4
                            have q4 : σ4 54 = (ful (ful (σ 54) ((4 * (σ 12 42)) + 1) (σ1 12 18)) (4 * (σ 12 42)) 4) := (g4.1 54 (by decide)).trans q3
                            have c4_ : σ4 12 42 = σ 12 42 := (g4.2 42 (by decide) (by decide)).trans c3_
                            have s4_ : σ4 52 = σ 52 := (g4.1 52 (by decide)).trans s3_
                            have n4_ : σ4 55 = σ 55 := (g4.1 55 (by decide)).trans n3_
                            have m4_1 : σ4 52 1 = σ 52 1 := congrFun s4_ 1
                            have m4_2 : σ4 52 2 = σ 52 2 := congrFun s4_ 2
                            refine And.intro (fun _ => ?_) (fun (q : 1 = 0) => absurd q (by decide))
                            refine And.intro (show 0 ≤ ((4 * (σ 12 42)) + 3) ∧ ((4 * (σ 12 42)) + 3) < 160 from by omega) ?_
                            refine And.intro (show Int.negSucc 2147483647 ≤ (σ4 12 18) ∧ (σ4 12 18) ≤ 2147483647 from rgm (by omega)) ?_
                            refine And.intro (show 0 ≤ 1 ∧ 1 ≤ 1 from by omega) ?_
                            refine And.intro (fun (q : 1 = 0) => absurd q (by decide)) (fun _ => ?_)
                            refine And.intro (show 0 ≤ 1 ∧ 1 ≤ 1 from by omega) ?_
                            have hd := (qVd_14 yt17 yt18 yt19 yt20 yt21)
                            have eL : (qLn x (σ 55) (σ 52 1) (σ 52 2) (σ 12 42) p) = (0, (qnx x.1 x.2.1 (qnx x.1 x.2.1 (qnx x.1 x.2.1 p)))) := (qLn_d hv h1 (by omega) hd (by decide)).trans ((qD2_o (by decide)).trans (qOw_s h4))
                            rw [eL] at hG
                            have hR := (vup_f.trans (congrArg (fun f => ful f ((4 * (σ 12 42)) + 3) (σ4 12 18)) q4))
                            refine hG rfl (vup σ4 54 ((4 * (σ 12 42)) + 3) (σ4 12 18)) (rT_t T4 (by decide)) (fun j j0 j1 => (congrFun hR j).trans ((ful_ne (by omega)).trans ((ful_ne (by omega)).trans ((ful_ne (by omega)).trans rfl)))) (rRow_of ((congrFun hR (4 * (σ 12 42))).trans ((ful_ne (by omega)).trans ful_at)) ((congrFun hR ((4 * (σ 12 42)) + 1)).trans ((ful_ne (by omega)).trans ((ful_ne (by omega)).trans ful_at))) rfl ((congrFun hR ((4 * (σ 12 42)) + 3)).trans ful_at) (Or.inr (Or.inr (Or.inl ⟨⟨by decide, by decide⟩, ⟨by omega, by omega⟩, by omega, by omega⟩)))) ((congrFun (vup_fr (by decide)) 42).trans c4_) ((vup_fr (by decide)).trans s4_) ((vup_fr (by decide)).trans n4_)
                        · have yt21 : ¬ qisw x (qnx x.1 x.2.1 p) (qrw 14) = true := by rw [qisw_f T2 (v := qrw 14) t21]; exact Bool.false_ne_true
                          clear t21
                          refine And.intro (fun _ => ?_) (fun (q : ¬ 0 = 0) => absurd q (by decide))
                          refine fun z (t22 : (z = 1 ∧ σ2 12 11 = 1 ∧ σ2 12 17 = 1684628851) ∨ (z = 0 ∧ ¬ (σ2 12 11 = 1 ∧ σ2 12 17 = 1684628851))) => ?_
                          rcases t22 with ⟨rfl, t22⟩ | ⟨rfl, t22⟩
                          · have yt22 : qisw x (qnx x.1 x.2.1 p) (qrw 13) = true := qisw_t T2 (v := qrw 13) t22
                            clear t22
                            refine And.intro (fun (q : 1 = 0) => absurd q (by decide)) (fun _ => ?_)
                            refine And.intro (fun _ => ?_) (fun (q : 5 < 0) => absurd q (by decide))
                            refine And.intro (show 0 ≤ (4 * (σ 12 42)) ∧ (4 * (σ 12 42)) < 160 from by omega) ?_
                            refine And.intro (show Int.negSucc 2147483647 ≤ 5 ∧ 5 ≤ 2147483647 from rgm (by omega)) ?_
                            refine fun (σ3 : vS) (f3 : rfr (vup σ2 54 (4 * (σ 12 42)) 5) σ3) (t3_ : rtk (rtx (vup σ2 54 (4 * (σ 12 42)) 5)) ((vup σ2 54 (4 * (σ 12 42)) 5) 12 3) ((vup σ2 54 (4 * (σ 12 42)) 5) 12 5) (tE (fun q => tbk (rtx (vup σ2 54 (4 * (σ 12 42)) 5) q)) ((vup σ2 54 (4 * (σ 12 42)) 5) 12 3) ((vup σ2 54 (4 * (σ 12 42)) 5) 12 4)) σ3) => ?_
                            have T3 : rT x (qnx x.1 x.2.1 (qnx x.1 x.2.1 p)) σ3 := rT_next (rT_t T2 (by decide)) (by have := qisw_k yt22; omega) hl0 f3 t3_
                            have q3 : σ3 54 = (ful (ful (σ 54) ((4 * (σ 12 42)) + 1) (σ1 12 18)) (4 * (σ 12 42)) 5) := (f3.1 54 (by decide)).trans (vup_f.trans (congrArg (fun f => ful f (4 * (σ 12 42)) 5) q2))
                            have c3_ : σ3 12 42 = σ 12 42 := (f3.2 42 (by decide) (by decide) (by decide) (by decide) (by decide) (by decide)).trans ((congrFun (vup_fr (by decide)) 42).trans c2_)
                            have s3_ : σ3 52 = σ 52 := (f3.1 52 (by decide)).trans ((vup_fr (by decide)).trans s2_)
                            have n3_ : σ3 55 = σ 55 := (f3.1 55 (by decide)).trans ((vup_fr (by decide)).trans n2_)
                            have m3_1 : σ3 52 1 = σ 52 1 := congrFun s3_ 1
                            have m3_2 : σ3 52 2 = σ 52 2 := congrFun s3_ 2
                            refine And.intro (fun (q : ¬ 5 = 5) => absurd q (by decide)) (fun _ => ?_)
                            refine And.intro (show 0 ≤ 1 ∧ 1 ≤ 1 from by omega) ?_
                            have hd := (qVd_13 yt17 yt18 yt19 yt20 yt21 yt22)
                            have eL : (qLn x (σ 55) (σ 52 1) (σ 52 2) (σ 12 42) p) = (0, (qnx x.1 x.2.1 (qnx x.1 x.2.1 p))) := (qLn_d hv h1 (by omega) hd (by decide)).trans qD2_5
                            rw [eL] at hG
                            have hR := q3
                            refine hG rfl σ3 T3 (fun j j0 j1 => (congrFun hR j).trans ((ful_ne (by omega)).trans ((ful_ne (by omega)).trans rfl))) (rRow_of ((congrFun hR (4 * (σ 12 42))).trans ful_at) ((congrFun hR ((4 * (σ 12 42)) + 1)).trans ((ful_ne (by omega)).trans ful_at)) rfl rfl (Or.inr (Or.inr (Or.inr (Or.inl ⟨rfl, by omega, by omega⟩))))) c3_ s3_ n3_
                          · have yt22 : ¬ qisw x (qnx x.1 x.2.1 p) (qrw 13) = true := by rw [qisw_f T2 (v := qrw 13) t22]; exact Bool.false_ne_true
                            clear t22
                            refine And.intro (fun _ => ?_) (fun (q : ¬ 0 = 0) => absurd q (by decide))
                            refine And.intro (fun (q : 0 ≤ (-1)) => absurd q (by decide)) (fun _ => ?_)
                            refine And.intro (by omega) ?_
                            refine And.intro (show 0 ≤ 0 ∧ 0 ≤ 1 from by omega) ?_
                            have hd : qVd x (qnx x.1 x.2.1 p) = -1 := (qVd_n yt17 yt18 yt19 yt20 yt21 yt22)
                            have eL : (qLn x (σ 55) (σ 52 1) (σ 52 2) (σ 12 42) p) = (1, (qnx x.1 x.2.1 p)) := qLn_1 hv h1 (by omega) hd
                            rw [eL] at hF
                            exact hF (by first | (show ¬ ((1 : Int) = 0); decide) | (show ¬ ((2 : Int) = 0); decide) | (show ¬ ((4 : Int) = 0); decide) | (show ¬ (-(_) = (0 : Int)); omega)) _ (rFl_bad T2) ((vup_ne 12 42 (fun q => absurd q.2 (by decide))).trans ((vup_ne 12 42 (fun q => absurd q.2 (by decide))).trans c2_)) ((vup_fr (by decide)).trans ((vup_fr (by decide)).trans s2_)) ((vup_fr (by decide)).trans ((vup_fr (by decide)).trans n2_))
              · refine And.intro (by omega) ?_
                refine And.intro (show 0 ≤ 0 ∧ 0 ≤ 1 from by omega) ?_
                have eL : (qLn x (σ 55) (σ 52 1) (σ 52 2) (σ 12 42) p) = (4, p) := qLn_4o hv h1 (by omega)
                rw [eL] at hF
                exact hF (by first | (show ¬ ((1 : Int) = 0); decide) | (show ¬ ((2 : Int) = 0); decide) | (show ¬ ((4 : Int) = 0); decide) | (show ¬ (-(_) = (0 : Int)); omega)) _ (rFl_bad T1) ((vup_ne 12 42 (fun q => absurd q.2 (by decide))).trans ((vup_ne 12 42 (fun q => absurd q.2 (by decide))).trans c1_)) ((vup_fr (by decide)).trans ((vup_fr (by decide)).trans s1_)) ((vup_fr (by decide)).trans ((vup_fr (by decide)).trans n1_))
  · exact absurd h id
end ZVB
