section ZVL5
variable {E : zE} {w : va_W} {σ : vS} {K : vKL}
noncomputable section
def vLB : List (Nat × vSpL) := (74, vs74) :: (75, vt75) :: (71, cs71) :: (60, cs60) :: (65, cs65) :: (68, cs68) :: (69, cs69) :: []
end
theorem vLB_ok (X : zX gKX E) (B : zB E) : zSC E mdK w vLB := zS_consC (zOKC_mo (by decide +kernel) fun _ => vk_74 X B) (zS_consC (zOKC_mo (by decide +kernel) fun _ => vt_75 X B) (zS_consC (zOKC_mo (md := md72) (by decide +kernel) fun _ => ck_71 X B) (zS_consC (zOKC_mo (md := md72) (by decide +kernel) fun _ => ck_60 X B) (zS_consC (zOKC_mo (md := md72) (by decide +kernel) fun _ => ck_65 X B) (zS_consC (zOKC_mo (md := md72) (by decide +kernel) fun _ => ck_68 X B) (zS_consC (zOKC_mo (md := md72) (by decide +kernel) fun _ => ck_69 X B) zS_nilC))))))
set_option maxRecDepth 16384 in
theorem vt_5 (X : zX gKX E) (B : zB E) : zOKC E mdK w 5 vt5 := by
  intro q hq vs σ K h
  cases (show gMT 5 = some (gm_5, 5) from rfl).symm.trans hq
  unfold vt5 at h
  split at h
  · obtain ⟨x, p, S, ⟨hT, hS⟩, hF, hG⟩ := h
    have hH1 := hS.2.2.1
    have hH2 := hS.2.2.2
    show zGC E mdK w gm_5 0 [(0, .inr (.inl 0)), (1, .inr (.inl 7)), (2, .inr (.inl 93))] σ K
    refine zbdC (fun hb0 => ?_)
    have b04 : 0 ≤ σ 0 4 ∧ σ 0 4 ≤ 40 := zfC hb0 (t := 0) (f := 4) (by decide +kernel)
    refine zbdC (fun hb => zgoC X B (vLB_ok X B) [] [] (fun m => false) (by decide +kernel) ?_)
    have f1 : 0 ≤ σ 7 4 ∧ σ 7 4 ≤ 5 := zfC hb (t := 7) (f := 4) (by decide +kernel)
    refine And.intro (fun (c2 : ¬ (σ 7 4) = 3) => ?_) (fun (c3 : (σ 7 4) = 3) => ?_)
    · refine fun (r4 : Int) (t5 : (σ 7 4 = 2 ∧ r4 = σ 7 6) ∨ (¬ σ 7 4 = 2 ∧ r4 = -1)) => ?_
      have br4 : -1 ≤ r4 ∧ r4 ≤ 29 := cT_kb hT t5
      refine And.intro (fun (c6 : r4 = 15) => ?_) (fun (c7 : ¬ r4 = 15) => ?_)
      · refine And.intro (show 0 ≤ 1 ∧ 1 ≤ 1 from by omega) ?_
        refine And.intro (fun _ => ?_) (fun (q : 1 = 0) => absurd q (by decide))
        have f8 : 0 ≤ σ 0 4 ∧ σ 0 4 ≤ 40 := zfC hb (t := 0) (f := 4) (by decide +kernel)
        refine And.intro (fun (c9 : (σ 0 4) < 40) => ?_) (fun (c10 : 40 ≤ (σ 0 4)) => ?_)
        · refine And.intro (fun _ => ?_) (fun (q : ¬ (-1) = (-1)) => absurd q (by decide))
          refine And.intro (show 0 ≤ (σ 0 4) ∧ (σ 0 4) < 40 from by omega) ?_
          refine And.intro (show Int.negSucc 0 ≤ (-1) ∧ (-1) ≤ 5 from rgm (by omega)) ?_
          refine fun (r11 : Int) (t12 : ((vup σ 14 (σ 0 4) (-1)) 7 4 = 2 ∧ r11 = (vup σ 14 (σ 0 4) (-1)) 7 6) ∨ (¬ (vup σ 14 (σ 0 4) (-1)) 7 4 = 2 ∧ r11 = -1)) => ?_
          have t12 : (σ 7 4 = 2 ∧ r11 = σ 7 6) ∨ (¬ σ 7 4 = 2 ∧ r11 = -1) := t12
          obtain rfl : r4 = r11 := by omega
          clear t12
          skip
          refine And.intro (show 0 ≤ (σ 0 4) ∧ (σ 0 4) < 40 from by omega) ?_
          refine And.intro (show Int.negSucc 2147483647 ≤ r4 ∧ r4 ≤ 2147483647 from rgm (by omega)) ?_
          refine And.intro (fun (q : ¬ (-1) = (-1)) => absurd q (by decide)) (fun _ => ?_)
          refine fun (r13 : Int) (t14 : ((vup (vup σ 14 (σ 0 4) (-1)) 13 (σ 0 4) r4) 7 4 = 2 ∧ r13 = (vup (vup σ 14 (σ 0 4) (-1)) 13 (σ 0 4) r4) 7 6) ∨ (¬ (vup (vup σ 14 (σ 0 4) (-1)) 13 (σ 0 4) r4) 7 4 = 2 ∧ r13 = -1)) => ?_
          have t14 : (σ 7 4 = 2 ∧ r13 = σ 7 6) ∨ (¬ σ 7 4 = 2 ∧ r13 = -1) := t14
          obtain rfl : r4 = r13 := by omega
          clear t14
          skip
          have hk1 : ¬ qkd x.1 x.2.1 x.2.2 p = 0 ∧ ¬ qkd x.1 x.2.1 x.2.2 p = 4 := by first | omega | exact (cT_nks hT).1 (by omega)
          refine And.intro (cT_nx ⟨(cT_b (cT_b hT (by decide)) (by decide)), hk1⟩) (fun s1 (σ1 : vS) ha1 f1 t1_ => ?_)
          have T1 : cT x (qnx x.1 x.2.1 p) σ1 := cT_next (cT_b (cT_b hT (by decide)) (by decide)) hk1 ha1 f1 t1_
          clear ha1
          have F1 : cBf σ σ1 := cBf_cg (cBf_up (by decide) (cBf_up (by decide) cBf_refl)) (cg_of f1)
          have N1 : σ1 0 4 = σ 0 4 := (congrFun ((cg_of f1).1 0 (by decide)) 4).trans ((congrFun (vup_fr (by decide)) 4).trans ((congrFun (vup_fr (by decide)) 4).trans (rfl : σ 0 4 = σ 0 4)))
          have r1_13 : σ1 13 = ful (σ 13) (σ 0 4) r4 := ((cg_of f1).1 13 (by decide)).trans (vup_f.trans (ful_cg ((vup_fr (by decide)).trans (rfl : σ 13 = σ 13)) (rfl : σ 0 4 = σ 0 4)))
          have r1_14 : σ1 14 = ful (σ 14) (σ 0 4) (-1) := ((cg_of f1).1 14 (by decide)).trans ((vup_fr (by decide)).trans (vup_f.trans (ful_cg (rfl : σ 14 = σ 14) (rfl : σ 0 4 = σ 0 4))))
          have r1_15 : σ1 15 = σ 15 := ((cg_of f1).1 15 (by decide)).trans ((vup_fr (by decide)).trans ((vup_fr (by decide)).trans (rfl : σ 15 = σ 15)))
          have r1_16 : σ1 16 = σ 16 := ((cg_of f1).1 16 (by decide)).trans ((vup_fr (by decide)).trans ((vup_fr (by decide)).trans (rfl : σ 16 = σ 16)))
          refine And.intro (fun _ => ?_) (fun (q : r4 = 17) => (by exfalso; omega))
          refine And.intro (fun _ => ?_) (fun (q : r4 = 18) => (by exfalso; omega))
          refine ⟨(cT_fl T1 (by decide : (0 : Int) ≤ 1 ∧ (1 : Int) ≤ 4)).2, fun cu15 => ?_, fun cu15 du15 => ?_, fun cu15 du15 eu15 => ?_⟩
          · have cu15 : ¬ σ1 7 4 = 4 := cu15
            refine And.intro (fun _ => ?_) (fun (q : ¬ (-1) = (-1)) => absurd q (by decide))
            refine And.intro (show 0 ≤ 0 ∧ 0 ≤ 1 from by omega) ?_
            refine And.intro (show 0 ≤ 0 ∧ 0 ≤ 1 from by omega) ?_
            refine And.intro (fun _ => ?_) (fun (q : ¬ 0 = 0) => absurd q (by decide))
            refine And.intro (show 0 ≤ 0 ∧ 0 ≤ 1 from by omega) ?_
            have hv := (cT_ev hT).1 (by omega)
            have eL : (qLn x S.2.2 (S.2.1 1) (S.2.1 2) (σ 0 4) p) = (1, (qnx x.1 x.2.1 p)) := (qLn_n (by omega) (by omega)).trans ((qNu_lo (by omega)).1 (fun q => cu15 ((cT_nks T1).2.1.mp q)))
            rw [eL] at hF
            exact hF (by show ¬ ((1 : Int) = 0); decide) (vup (vup σ1 7 2 1) 7 3 (σ1 7 5)) (cFl_of T1) (cBf_cg F1 cg_fl) ((congrFun (vup_fr (by decide)) 4).trans ((congrFun (vup_fr (by decide)) 4).trans N1)) (fun t t0 t1 j j1 => by
              rcases (show t = 13 ∨ t = 14 ∨ t = 15 ∨ t = 16 by omega) with rfl | rfl | rfl | rfl
              · exact (congrFun ((vup_fr (by decide)).trans ((vup_fr (by decide)).trans r1_13)) j).trans (ful_ne (by omega))
              · exact (congrFun ((vup_fr (by decide)).trans ((vup_fr (by decide)).trans r1_14)) j).trans (ful_ne (by omega))
              · exact congrFun ((vup_fr (by decide)).trans ((vup_fr (by decide)).trans r1_15)) j
              · exact congrFun ((vup_fr (by decide)).trans ((vup_fr (by decide)).trans r1_16)) j)
          · have cu15 : σ1 7 4 = 4 := cu15
            have du15 : σ1 7 6 < 0 ∨ 19 < σ1 7 6 := du15
            refine And.intro (fun _ => ?_) (fun (q : ¬ (-1) = (-1)) => absurd q (by decide))
            refine And.intro (show 0 ≤ 0 ∧ 0 ≤ 1 from by omega) ?_
            refine And.intro (show 0 ≤ 0 ∧ 0 ≤ 1 from by omega) ?_
            refine And.intro (fun _ => ?_) (fun (q : ¬ 0 = 0) => absurd q (by decide))
            refine And.intro (show 0 ≤ 0 ∧ 0 ≤ 1 from by omega) ?_
            have hv := (cT_ev hT).1 (by omega)
            have eL : (qLn x S.2.2 (S.2.1 1) (S.2.1 2) (σ 0 4) p) = (2, (qnx x.1 x.2.1 p)) := (qLn_n (by omega) (by omega)).trans ((qNu_lo (by omega)).2.1 (cT_nv T1 cu15).1 (by rw [← (cT_nv T1 cu15).2]; omega))
            rw [eL] at hF
            exact hF (by show ¬ ((2 : Int) = 0); decide) (vup (vup σ1 7 2 2) 7 3 (σ1 7 5)) (cFl_of T1) (cBf_cg F1 cg_fl) ((congrFun (vup_fr (by decide)) 4).trans ((congrFun (vup_fr (by decide)) 4).trans N1)) (fun t t0 t1 j j1 => by
              rcases (show t = 13 ∨ t = 14 ∨ t = 15 ∨ t = 16 by omega) with rfl | rfl | rfl | rfl
              · exact (congrFun ((vup_fr (by decide)).trans ((vup_fr (by decide)).trans r1_13)) j).trans (ful_ne (by omega))
              · exact (congrFun ((vup_fr (by decide)).trans ((vup_fr (by decide)).trans r1_14)) j).trans (ful_ne (by omega))
              · exact congrFun ((vup_fr (by decide)).trans ((vup_fr (by decide)).trans r1_15)) j
              · exact congrFun ((vup_fr (by decide)).trans ((vup_fr (by decide)).trans r1_16)) j)
          · have cu15 : σ1 7 4 = 4 := cu15
            have du15 : 0 ≤ σ1 7 6 := du15
            have eu15 : σ1 7 6 ≤ 19 := eu15
            have zu15 : σ1 7 6 = σ1 7 6 := rfl
            rw [zu15]
            refine And.intro (fun (q : (σ1 7 6) = (-1)) => (by exfalso; omega)) (fun _ => ?_)
            refine And.intro (fun (c16 : (σ1 0 4) < 40) => ?_) (fun (c17 : 40 ≤ (σ1 0 4)) => ?_)
            · refine And.intro (show 0 ≤ (σ1 0 4) ∧ (σ1 0 4) < 40 from by omega) ?_
              refine And.intro (show 0 ≤ (σ1 7 6) ∧ (σ1 7 6) ≤ 60 from by omega) ?_
              have hk2 : ¬ qkd x.1 x.2.1 x.2.2 (qnx x.1 x.2.1 p) = 0 ∧ ¬ qkd x.1 x.2.1 x.2.2 (qnx x.1 x.2.1 p) = 4 := by first | omega | exact (cT_nks T1).1 (by omega)
              refine And.intro (cT_nx ⟨(cT_b T1 (by decide)), hk2⟩) (fun s2 (σ2 : vS) ha2 f2 t2_ => ?_)
              have T2 : cT x (qnx x.1 x.2.1 (qnx x.1 x.2.1 p)) σ2 := cT_next (cT_b T1 (by decide)) hk2 ha2 f2 t2_
              clear ha2
              have F2 : cBf σ σ2 := cBf_cg (cBf_up (by decide) F1) (cg_of f2)
              have N2 : σ2 0 4 = σ 0 4 := (congrFun ((cg_of f2).1 0 (by decide)) 4).trans ((congrFun (vup_fr (by decide)) 4).trans N1)
              have r2_13 : σ2 13 = ful (σ 13) (σ 0 4) r4 := ((cg_of f2).1 13 (by decide)).trans ((vup_fr (by decide)).trans r1_13)
              have r2_14 : σ2 14 = ful (σ 14) (σ 0 4) (-1) := ((cg_of f2).1 14 (by decide)).trans ((vup_fr (by decide)).trans r1_14)
              have r2_15 : σ2 15 = ful (σ 15) (σ 0 4) (σ1 7 6) := ((cg_of f2).1 15 (by decide)).trans (vup_f.trans (ful_cg r1_15 N1))
              have r2_16 : σ2 16 = σ 16 := ((cg_of f2).1 16 (by decide)).trans ((vup_fr (by decide)).trans r1_16)
              refine And.intro (show 0 ≤ 1 ∧ 1 ≤ 1 from by omega) ?_
              refine And.intro (show 0 ≤ 1 ∧ 1 ≤ 1 from by omega) ?_
              refine And.intro (fun (q : 1 = 0) => absurd q (by decide)) (fun _ => ?_)
              refine ⟨x, (qnx x.1 x.2.1 (qnx x.1 x.2.1 p)), T2, fun e3 (σ3 : vS) fl3 g3 => ?_, fun e3 (σ3 : vS) T3 g3 => ?_⟩
              · have F3 : cBf σ σ3 := cBf_cg F2 g3
                have N3 : σ3 0 4 = σ 0 4 := (congrFun (g3.1 0 (by decide)) 4).trans N2
                have r3_13 : σ3 13 = ful (σ 13) (σ 0 4) r4 := (g3.1 13 (by decide)).trans r2_13
                have r3_14 : σ3 14 = ful (σ 14) (σ 0 4) (-1) := (g3.1 14 (by decide)).trans r2_14
                have r3_15 : σ3 15 = ful (σ 15) (σ 0 4) (σ1 7 6) := (g3.1 15 (by decide)).trans r2_15
                have r3_16 : σ3 16 = σ 16 := (g3.1 16 (by decide)).trans r2_16
                refine And.intro (fun (q : ¬ 0 = 0) => absurd q (by decide)) (fun _ => ?_)
                refine And.intro (show 0 ≤ 0 ∧ 0 ≤ 1 from by omega) ?_
                have hv := (cT_ev hT).1 (by omega)
                have eL : (qLn x S.2.2 (S.2.1 1) (S.2.1 2) (σ 0 4) p) = (0, (qnx x.1 x.2.1 (qnx x.1 x.2.1 p))) := (qLn_n (by omega) (by omega)).trans ((qNu_lo (by omega)).2.2 (cT_nv T1 cu15).1 (by rw [← (cT_nv T1 cu15).2]; omega))
                rw [eL] at hG
                exact (hG rfl).1 e3 σ3 fl3 F3 N3 (fun t t0 t1 j j1 => by
                  rcases (show t = 13 ∨ t = 14 ∨ t = 15 ∨ t = 16 by omega) with rfl | rfl | rfl | rfl
                  · exact (congrFun r3_13 j).trans (ful_ne (by omega))
                  · exact (congrFun r3_14 j).trans (ful_ne (by omega))
                  · exact (congrFun r3_15 j).trans (ful_ne (by omega))
                  · exact congrFun r3_16 j)
              · have F3 : cBf σ σ3 := cBf_cg F2 g3
                have N3 : σ3 0 4 = σ 0 4 := (congrFun (g3.1 0 (by decide)) 4).trans N2
                have r3_13 : σ3 13 = ful (σ 13) (σ 0 4) r4 := (g3.1 13 (by decide)).trans r2_13
                have r3_14 : σ3 14 = ful (σ 14) (σ 0 4) (-1) := (g3.1 14 (by decide)).trans r2_14
                have r3_15 : σ3 15 = ful (σ 15) (σ 0 4) (σ1 7 6) := (g3.1 15 (by decide)).trans r2_15
                have r3_16 : σ3 16 = σ 16 := (g3.1 16 (by decide)).trans r2_16
                refine And.intro (fun _ => ?_) (fun (q : 1 = 0) => absurd q (by decide))
                refine And.intro (show -2147483648 ≤ ((σ3 0 4) + 1) ∧ ((σ3 0 4) + 1) ≤ 2147483647 from by omega) ?_
                refine And.intro (show 0 ≤ ((σ3 0 4) + 1) ∧ ((σ3 0 4) + 1) ≤ 40 from by omega) ?_
                refine And.intro (show 0 ≤ 1 ∧ 1 ≤ 1 from by omega) ?_
                have hv := (cT_ev hT).1 (by omega)
                have eL : (qLn x S.2.2 (S.2.1 1) (S.2.1 2) (σ 0 4) p) = (0, (qnx x.1 x.2.1 (qnx x.1 x.2.1 p))) := (qLn_n (by omega) (by omega)).trans ((qNu_lo (by omega)).2.2 (cT_nv T1 cu15).1 (by rw [← (cT_nv T1 cu15).2]; omega))
                rw [eL] at hG
                exact (hG rfl).2 e3 (vup σ3 0 4 ((σ3 0 4) + 1)) (cT_b T3 (by decide)) (cBf_up (by decide) F3) (show σ3 0 4 + 1 = σ 0 4 + 1 from by rw [N3]) (fun t t0 t1 j j1 => by
                  rcases (show t = 13 ∨ t = 14 ∨ t = 15 ∨ t = 16 by omega) with rfl | rfl | rfl | rfl
                  · exact (congrFun ((vup_fr (by decide)).trans r3_13) j).trans (ful_ne (by omega))
                  · exact (congrFun ((vup_fr (by decide)).trans r3_14) j).trans (ful_ne (by omega))
                  · exact (congrFun ((vup_fr (by decide)).trans r3_15) j).trans (ful_ne (by omega))
                  · exact congrFun ((vup_fr (by decide)).trans r3_16) j) (cRow_of ((congrFun ((vup_fr (by decide)).trans r3_13) (σ 0 4)).trans ful_at) ((congrFun ((vup_fr (by decide)).trans r3_14) (σ 0 4)).trans ful_at) ((congrFun ((vup_fr (by decide)).trans r3_15) (σ 0 4)).trans ful_at) rfl (Or.inr (Or.inr (Or.inr (Or.inr (Or.inr (Or.inl ⟨⟨by omega, by omega⟩, by omega, by omega, by omega⟩)))))))
            · refine And.intro (show 0 ≤ 0 ∧ 0 ≤ 1 from by omega) ?_
              refine And.intro (show 0 ≤ 0 ∧ 0 ≤ 1 from by omega) ?_
              refine And.intro (fun _ => ?_) (fun (q : ¬ 0 = 0) => absurd q (by decide))
              refine And.intro (show 0 ≤ 0 ∧ 0 ≤ 1 from by omega) ?_
              exfalso; omega
        · refine And.intro (cT_fl hT (by omega)) ?_
          refine And.intro (show 0 ≤ 0 ∧ 0 ≤ 1 from by omega) ?_
          have hv := (cT_ev hT).1 (by omega)
          have eL : (qLn x S.2.2 (S.2.1 1) (S.2.1 2) (σ 0 4) p) = (4, p) := qLn_4 (by omega) (by omega)
          rw [eL] at hF
          exact hF (by show ¬ ((4 : Int) = 0); decide) (vup (vup σ 7 2 4) 7 3 (σ 7 5)) (cFl_of hT) (cBf_cg cBf_refl cg_fl) ((congrFun (vup_fr (by decide)) 4).trans ((congrFun (vup_fr (by decide)) 4).trans (rfl : σ 0 4 = σ 0 4))) (fun t t0 t1 j j1 => by
            rcases (show t = 13 ∨ t = 14 ∨ t = 15 ∨ t = 16 by omega) with rfl | rfl | rfl | rfl
            · exact congrFun ((vup_fr (by decide)).trans ((vup_fr (by decide)).trans (rfl : σ 13 = σ 13))) j
            · exact congrFun ((vup_fr (by decide)).trans ((vup_fr (by decide)).trans (rfl : σ 14 = σ 14))) j
            · exact congrFun ((vup_fr (by decide)).trans ((vup_fr (by decide)).trans (rfl : σ 15 = σ 15))) j
            · exact congrFun ((vup_fr (by decide)).trans ((vup_fr (by decide)).trans (rfl : σ 16 = σ 16))) j)
      · refine And.intro (fun (c18 : r4 = 16) => ?_) (fun (c19 : ¬ r4 = 16) => ?_)
        · refine And.intro (show 0 ≤ 1 ∧ 1 ≤ 1 from by omega) ?_
          refine And.intro (fun _ => ?_) (fun (q : 1 = 0) => absurd q (by decide))
          have f20 : 0 ≤ σ 0 4 ∧ σ 0 4 ≤ 40 := zfC hb (t := 0) (f := 4) (by decide +kernel)
          refine And.intro (fun (c21 : (σ 0 4) < 40) => ?_) (fun (c22 : 40 ≤ (σ 0 4)) => ?_)
          · refine And.intro (fun _ => ?_) (fun (q : ¬ (-1) = (-1)) => absurd q (by decide))
            refine And.intro (show 0 ≤ (σ 0 4) ∧ (σ 0 4) < 40 from by omega) ?_
            refine And.intro (show Int.negSucc 0 ≤ (-1) ∧ (-1) ≤ 5 from rgm (by omega)) ?_
            refine fun (r23 : Int) (t24 : ((vup σ 14 (σ 0 4) (-1)) 7 4 = 2 ∧ r23 = (vup σ 14 (σ 0 4) (-1)) 7 6) ∨ (¬ (vup σ 14 (σ 0 4) (-1)) 7 4 = 2 ∧ r23 = -1)) => ?_
            have t24 : (σ 7 4 = 2 ∧ r23 = σ 7 6) ∨ (¬ σ 7 4 = 2 ∧ r23 = -1) := t24
            obtain rfl : r4 = r23 := by omega
            clear t24
            skip
            refine And.intro (show 0 ≤ (σ 0 4) ∧ (σ 0 4) < 40 from by omega) ?_
            refine And.intro (show Int.negSucc 2147483647 ≤ r4 ∧ r4 ≤ 2147483647 from rgm (by omega)) ?_
            refine And.intro (fun (q : ¬ (-1) = (-1)) => absurd q (by decide)) (fun _ => ?_)
            refine fun (r25 : Int) (t26 : ((vup (vup σ 14 (σ 0 4) (-1)) 13 (σ 0 4) r4) 7 4 = 2 ∧ r25 = (vup (vup σ 14 (σ 0 4) (-1)) 13 (σ 0 4) r4) 7 6) ∨ (¬ (vup (vup σ 14 (σ 0 4) (-1)) 13 (σ 0 4) r4) 7 4 = 2 ∧ r25 = -1)) => ?_
            have t26 : (σ 7 4 = 2 ∧ r25 = σ 7 6) ∨ (¬ σ 7 4 = 2 ∧ r25 = -1) := t26
            obtain rfl : r4 = r25 := by omega
            clear t26
            skip
            have hk1 : ¬ qkd x.1 x.2.1 x.2.2 p = 0 ∧ ¬ qkd x.1 x.2.1 x.2.2 p = 4 := by first | omega | exact (cT_nks hT).1 (by omega)
            refine And.intro (cT_nx ⟨(cT_b (cT_b hT (by decide)) (by decide)), hk1⟩) (fun s1 (σ1 : vS) ha1 f1 t1_ => ?_)
            have T1 : cT x (qnx x.1 x.2.1 p) σ1 := cT_next (cT_b (cT_b hT (by decide)) (by decide)) hk1 ha1 f1 t1_
            clear ha1
            have F1 : cBf σ σ1 := cBf_cg (cBf_up (by decide) (cBf_up (by decide) cBf_refl)) (cg_of f1)
            have N1 : σ1 0 4 = σ 0 4 := (congrFun ((cg_of f1).1 0 (by decide)) 4).trans ((congrFun (vup_fr (by decide)) 4).trans ((congrFun (vup_fr (by decide)) 4).trans (rfl : σ 0 4 = σ 0 4)))
            have r1_13 : σ1 13 = ful (σ 13) (σ 0 4) r4 := ((cg_of f1).1 13 (by decide)).trans (vup_f.trans (ful_cg ((vup_fr (by decide)).trans (rfl : σ 13 = σ 13)) (rfl : σ 0 4 = σ 0 4)))
            have r1_14 : σ1 14 = ful (σ 14) (σ 0 4) (-1) := ((cg_of f1).1 14 (by decide)).trans ((vup_fr (by decide)).trans (vup_f.trans (ful_cg (rfl : σ 14 = σ 14) (rfl : σ 0 4 = σ 0 4))))
            have r1_15 : σ1 15 = σ 15 := ((cg_of f1).1 15 (by decide)).trans ((vup_fr (by decide)).trans ((vup_fr (by decide)).trans (rfl : σ 15 = σ 15)))
            have r1_16 : σ1 16 = σ 16 := ((cg_of f1).1 16 (by decide)).trans ((vup_fr (by decide)).trans ((vup_fr (by decide)).trans (rfl : σ 16 = σ 16)))
            refine And.intro (fun _ => ?_) (fun (q : r4 = 17) => (by exfalso; omega))
            refine And.intro (fun _ => ?_) (fun (q : r4 = 18) => (by exfalso; omega))
            refine ⟨(cT_fl T1 (by decide : (0 : Int) ≤ 1 ∧ (1 : Int) ≤ 4)).2, fun cu27 => ?_, fun cu27 du27 => ?_, fun cu27 du27 eu27 => ?_⟩
            · have cu27 : ¬ σ1 7 4 = 4 := cu27
              refine And.intro (fun _ => ?_) (fun (q : ¬ (-1) = (-1)) => absurd q (by decide))
              refine And.intro (show 0 ≤ 0 ∧ 0 ≤ 1 from by omega) ?_
              refine And.intro (show 0 ≤ 0 ∧ 0 ≤ 1 from by omega) ?_
              refine And.intro (fun _ => ?_) (fun (q : ¬ 0 = 0) => absurd q (by decide))
              refine And.intro (show 0 ≤ 0 ∧ 0 ≤ 1 from by omega) ?_
              have hv := (cT_ev hT).1 (by omega)
              have eL : (qLn x S.2.2 (S.2.1 1) (S.2.1 2) (σ 0 4) p) = (1, (qnx x.1 x.2.1 p)) := (qLn_n (by omega) (by omega)).trans ((qNu_lo (by omega)).1 (fun q => cu27 ((cT_nks T1).2.1.mp q)))
              rw [eL] at hF
              exact hF (by show ¬ ((1 : Int) = 0); decide) (vup (vup σ1 7 2 1) 7 3 (σ1 7 5)) (cFl_of T1) (cBf_cg F1 cg_fl) ((congrFun (vup_fr (by decide)) 4).trans ((congrFun (vup_fr (by decide)) 4).trans N1)) (fun t t0 t1 j j1 => by
                rcases (show t = 13 ∨ t = 14 ∨ t = 15 ∨ t = 16 by omega) with rfl | rfl | rfl | rfl
                · exact (congrFun ((vup_fr (by decide)).trans ((vup_fr (by decide)).trans r1_13)) j).trans (ful_ne (by omega))
                · exact (congrFun ((vup_fr (by decide)).trans ((vup_fr (by decide)).trans r1_14)) j).trans (ful_ne (by omega))
                · exact congrFun ((vup_fr (by decide)).trans ((vup_fr (by decide)).trans r1_15)) j
                · exact congrFun ((vup_fr (by decide)).trans ((vup_fr (by decide)).trans r1_16)) j)
            · have cu27 : σ1 7 4 = 4 := cu27
              have du27 : σ1 7 6 < 0 ∨ 19 < σ1 7 6 := du27
              refine And.intro (fun _ => ?_) (fun (q : ¬ (-1) = (-1)) => absurd q (by decide))
              refine And.intro (show 0 ≤ 0 ∧ 0 ≤ 1 from by omega) ?_
              refine And.intro (show 0 ≤ 0 ∧ 0 ≤ 1 from by omega) ?_
              refine And.intro (fun _ => ?_) (fun (q : ¬ 0 = 0) => absurd q (by decide))
              refine And.intro (show 0 ≤ 0 ∧ 0 ≤ 1 from by omega) ?_
              have hv := (cT_ev hT).1 (by omega)
              have eL : (qLn x S.2.2 (S.2.1 1) (S.2.1 2) (σ 0 4) p) = (2, (qnx x.1 x.2.1 p)) := (qLn_n (by omega) (by omega)).trans ((qNu_lo (by omega)).2.1 (cT_nv T1 cu27).1 (by rw [← (cT_nv T1 cu27).2]; omega))
              rw [eL] at hF
              exact hF (by show ¬ ((2 : Int) = 0); decide) (vup (vup σ1 7 2 2) 7 3 (σ1 7 5)) (cFl_of T1) (cBf_cg F1 cg_fl) ((congrFun (vup_fr (by decide)) 4).trans ((congrFun (vup_fr (by decide)) 4).trans N1)) (fun t t0 t1 j j1 => by
                rcases (show t = 13 ∨ t = 14 ∨ t = 15 ∨ t = 16 by omega) with rfl | rfl | rfl | rfl
                · exact (congrFun ((vup_fr (by decide)).trans ((vup_fr (by decide)).trans r1_13)) j).trans (ful_ne (by omega))
                · exact (congrFun ((vup_fr (by decide)).trans ((vup_fr (by decide)).trans r1_14)) j).trans (ful_ne (by omega))
                · exact congrFun ((vup_fr (by decide)).trans ((vup_fr (by decide)).trans r1_15)) j
                · exact congrFun ((vup_fr (by decide)).trans ((vup_fr (by decide)).trans r1_16)) j)
            · have cu27 : σ1 7 4 = 4 := cu27
              have du27 : 0 ≤ σ1 7 6 := du27
              have eu27 : σ1 7 6 ≤ 19 := eu27
              have zu27 : σ1 7 6 = σ1 7 6 := rfl
              rw [zu27]
              refine And.intro (fun (q : (σ1 7 6) = (-1)) => (by exfalso; omega)) (fun _ => ?_)
              refine And.intro (fun (c28 : (σ1 0 4) < 40) => ?_) (fun (c29 : 40 ≤ (σ1 0 4)) => ?_)
              · refine And.intro (show 0 ≤ (σ1 0 4) ∧ (σ1 0 4) < 40 from by omega) ?_
                refine And.intro (show 0 ≤ (σ1 7 6) ∧ (σ1 7 6) ≤ 60 from by omega) ?_
                have hk2 : ¬ qkd x.1 x.2.1 x.2.2 (qnx x.1 x.2.1 p) = 0 ∧ ¬ qkd x.1 x.2.1 x.2.2 (qnx x.1 x.2.1 p) = 4 := by first | omega | exact (cT_nks T1).1 (by omega)
                refine And.intro (cT_nx ⟨(cT_b T1 (by decide)), hk2⟩) (fun s2 (σ2 : vS) ha2 f2 t2_ => ?_)
                have T2 : cT x (qnx x.1 x.2.1 (qnx x.1 x.2.1 p)) σ2 := cT_next (cT_b T1 (by decide)) hk2 ha2 f2 t2_
                clear ha2
                have F2 : cBf σ σ2 := cBf_cg (cBf_up (by decide) F1) (cg_of f2)
                have N2 : σ2 0 4 = σ 0 4 := (congrFun ((cg_of f2).1 0 (by decide)) 4).trans ((congrFun (vup_fr (by decide)) 4).trans N1)
                have r2_13 : σ2 13 = ful (σ 13) (σ 0 4) r4 := ((cg_of f2).1 13 (by decide)).trans ((vup_fr (by decide)).trans r1_13)
                have r2_14 : σ2 14 = ful (σ 14) (σ 0 4) (-1) := ((cg_of f2).1 14 (by decide)).trans ((vup_fr (by decide)).trans r1_14)
                have r2_15 : σ2 15 = ful (σ 15) (σ 0 4) (σ1 7 6) := ((cg_of f2).1 15 (by decide)).trans (vup_f.trans (ful_cg r1_15 N1))
                have r2_16 : σ2 16 = σ 16 := ((cg_of f2).1 16 (by decide)).trans ((vup_fr (by decide)).trans r1_16)
                refine And.intro (show 0 ≤ 1 ∧ 1 ≤ 1 from by omega) ?_
                refine And.intro (show 0 ≤ 1 ∧ 1 ≤ 1 from by omega) ?_
                refine And.intro (fun (q : 1 = 0) => absurd q (by decide)) (fun _ => ?_)
                refine ⟨x, (qnx x.1 x.2.1 (qnx x.1 x.2.1 p)), T2, fun e3 (σ3 : vS) fl3 g3 => ?_, fun e3 (σ3 : vS) T3 g3 => ?_⟩
                · have F3 : cBf σ σ3 := cBf_cg F2 g3
                  have N3 : σ3 0 4 = σ 0 4 := (congrFun (g3.1 0 (by decide)) 4).trans N2
                  have r3_13 : σ3 13 = ful (σ 13) (σ 0 4) r4 := (g3.1 13 (by decide)).trans r2_13
                  have r3_14 : σ3 14 = ful (σ 14) (σ 0 4) (-1) := (g3.1 14 (by decide)).trans r2_14
                  have r3_15 : σ3 15 = ful (σ 15) (σ 0 4) (σ1 7 6) := (g3.1 15 (by decide)).trans r2_15
                  have r3_16 : σ3 16 = σ 16 := (g3.1 16 (by decide)).trans r2_16
                  refine And.intro (fun (q : ¬ 0 = 0) => absurd q (by decide)) (fun _ => ?_)
                  refine And.intro (show 0 ≤ 0 ∧ 0 ≤ 1 from by omega) ?_
                  have hv := (cT_ev hT).1 (by omega)
                  have eL : (qLn x S.2.2 (S.2.1 1) (S.2.1 2) (σ 0 4) p) = (0, (qnx x.1 x.2.1 (qnx x.1 x.2.1 p))) := (qLn_n (by omega) (by omega)).trans ((qNu_lo (by omega)).2.2 (cT_nv T1 cu27).1 (by rw [← (cT_nv T1 cu27).2]; omega))
                  rw [eL] at hG
                  exact (hG rfl).1 e3 σ3 fl3 F3 N3 (fun t t0 t1 j j1 => by
                    rcases (show t = 13 ∨ t = 14 ∨ t = 15 ∨ t = 16 by omega) with rfl | rfl | rfl | rfl
                    · exact (congrFun r3_13 j).trans (ful_ne (by omega))
                    · exact (congrFun r3_14 j).trans (ful_ne (by omega))
                    · exact (congrFun r3_15 j).trans (ful_ne (by omega))
                    · exact congrFun r3_16 j)
                · have F3 : cBf σ σ3 := cBf_cg F2 g3
                  have N3 : σ3 0 4 = σ 0 4 := (congrFun (g3.1 0 (by decide)) 4).trans N2
                  have r3_13 : σ3 13 = ful (σ 13) (σ 0 4) r4 := (g3.1 13 (by decide)).trans r2_13
                  have r3_14 : σ3 14 = ful (σ 14) (σ 0 4) (-1) := (g3.1 14 (by decide)).trans r2_14
                  have r3_15 : σ3 15 = ful (σ 15) (σ 0 4) (σ1 7 6) := (g3.1 15 (by decide)).trans r2_15
                  have r3_16 : σ3 16 = σ 16 := (g3.1 16 (by decide)).trans r2_16
                  refine And.intro (fun _ => ?_) (fun (q : 1 = 0) => absurd q (by decide))
                  refine And.intro (show -2147483648 ≤ ((σ3 0 4) + 1) ∧ ((σ3 0 4) + 1) ≤ 2147483647 from by omega) ?_
                  refine And.intro (show 0 ≤ ((σ3 0 4) + 1) ∧ ((σ3 0 4) + 1) ≤ 40 from by omega) ?_
                  refine And.intro (show 0 ≤ 1 ∧ 1 ≤ 1 from by omega) ?_
                  have hv := (cT_ev hT).1 (by omega)
                  have eL : (qLn x S.2.2 (S.2.1 1) (S.2.1 2) (σ 0 4) p) = (0, (qnx x.1 x.2.1 (qnx x.1 x.2.1 p))) := (qLn_n (by omega) (by omega)).trans ((qNu_lo (by omega)).2.2 (cT_nv T1 cu27).1 (by rw [← (cT_nv T1 cu27).2]; omega))
                  rw [eL] at hG
                  exact (hG rfl).2 e3 (vup σ3 0 4 ((σ3 0 4) + 1)) (cT_b T3 (by decide)) (cBf_up (by decide) F3) (show σ3 0 4 + 1 = σ 0 4 + 1 from by rw [N3]) (fun t t0 t1 j j1 => by
                    rcases (show t = 13 ∨ t = 14 ∨ t = 15 ∨ t = 16 by omega) with rfl | rfl | rfl | rfl
                    · exact (congrFun ((vup_fr (by decide)).trans r3_13) j).trans (ful_ne (by omega))
                    · exact (congrFun ((vup_fr (by decide)).trans r3_14) j).trans (ful_ne (by omega))
                    · exact (congrFun ((vup_fr (by decide)).trans r3_15) j).trans (ful_ne (by omega))
                    · exact congrFun ((vup_fr (by decide)).trans r3_16) j) (cRow_of ((congrFun ((vup_fr (by decide)).trans r3_13) (σ 0 4)).trans ful_at) ((congrFun ((vup_fr (by decide)).trans r3_14) (σ 0 4)).trans ful_at) ((congrFun ((vup_fr (by decide)).trans r3_15) (σ 0 4)).trans ful_at) rfl (Or.inr (Or.inr (Or.inr (Or.inr (Or.inr (Or.inl ⟨⟨by omega, by omega⟩, by omega, by omega, by omega⟩)))))))
              · refine And.intro (show 0 ≤ 0 ∧ 0 ≤ 1 from by omega) ?_
                refine And.intro (show 0 ≤ 0 ∧ 0 ≤ 1 from by omega) ?_
                refine And.intro (fun _ => ?_) (fun (q : ¬ 0 = 0) => absurd q (by decide))
                refine And.intro (show 0 ≤ 0 ∧ 0 ≤ 1 from by omega) ?_
                exfalso; omega
          · refine And.intro (cT_fl hT (by omega)) ?_
            refine And.intro (show 0 ≤ 0 ∧ 0 ≤ 1 from by omega) ?_
            have hv := (cT_ev hT).1 (by omega)
            have eL : (qLn x S.2.2 (S.2.1 1) (S.2.1 2) (σ 0 4) p) = (4, p) := qLn_4 (by omega) (by omega)
            rw [eL] at hF
            exact hF (by show ¬ ((4 : Int) = 0); decide) (vup (vup σ 7 2 4) 7 3 (σ 7 5)) (cFl_of hT) (cBf_cg cBf_refl cg_fl) ((congrFun (vup_fr (by decide)) 4).trans ((congrFun (vup_fr (by decide)) 4).trans (rfl : σ 0 4 = σ 0 4))) (fun t t0 t1 j j1 => by
              rcases (show t = 13 ∨ t = 14 ∨ t = 15 ∨ t = 16 by omega) with rfl | rfl | rfl | rfl
              · exact congrFun ((vup_fr (by decide)).trans ((vup_fr (by decide)).trans (rfl : σ 13 = σ 13))) j
              · exact congrFun ((vup_fr (by decide)).trans ((vup_fr (by decide)).trans (rfl : σ 14 = σ 14))) j
              · exact congrFun ((vup_fr (by decide)).trans ((vup_fr (by decide)).trans (rfl : σ 15 = σ 15))) j
              · exact congrFun ((vup_fr (by decide)).trans ((vup_fr (by decide)).trans (rfl : σ 16 = σ 16))) j)
        · refine And.intro (fun (c30 : r4 = 17) => ?_) (fun (c31 : ¬ r4 = 17) => ?_)
          · refine And.intro (show 0 ≤ 1 ∧ 1 ≤ 1 from by omega) ?_
            refine And.intro (fun _ => ?_) (fun (q : 1 = 0) => absurd q (by decide))
            have f32 : 0 ≤ σ 0 4 ∧ σ 0 4 ≤ 40 := zfC hb (t := 0) (f := 4) (by decide +kernel)
            refine And.intro (fun (c33 : (σ 0 4) < 40) => ?_) (fun (c34 : 40 ≤ (σ 0 4)) => ?_)
            · refine And.intro (fun _ => ?_) (fun (q : ¬ (-1) = (-1)) => absurd q (by decide))
              refine And.intro (show 0 ≤ (σ 0 4) ∧ (σ 0 4) < 40 from by omega) ?_
              refine And.intro (show Int.negSucc 0 ≤ (-1) ∧ (-1) ≤ 5 from rgm (by omega)) ?_
              refine fun (r35 : Int) (t36 : ((vup σ 14 (σ 0 4) (-1)) 7 4 = 2 ∧ r35 = (vup σ 14 (σ 0 4) (-1)) 7 6) ∨ (¬ (vup σ 14 (σ 0 4) (-1)) 7 4 = 2 ∧ r35 = -1)) => ?_
              have t36 : (σ 7 4 = 2 ∧ r35 = σ 7 6) ∨ (¬ σ 7 4 = 2 ∧ r35 = -1) := t36
              obtain rfl : r4 = r35 := by omega
              clear t36
              skip
              refine And.intro (show 0 ≤ (σ 0 4) ∧ (σ 0 4) < 40 from by omega) ?_
              refine And.intro (show Int.negSucc 2147483647 ≤ r4 ∧ r4 ≤ 2147483647 from rgm (by omega)) ?_
              refine And.intro (fun (q : ¬ (-1) = (-1)) => absurd q (by decide)) (fun _ => ?_)
              refine fun (r37 : Int) (t38 : ((vup (vup σ 14 (σ 0 4) (-1)) 13 (σ 0 4) r4) 7 4 = 2 ∧ r37 = (vup (vup σ 14 (σ 0 4) (-1)) 13 (σ 0 4) r4) 7 6) ∨ (¬ (vup (vup σ 14 (σ 0 4) (-1)) 13 (σ 0 4) r4) 7 4 = 2 ∧ r37 = -1)) => ?_
              have t38 : (σ 7 4 = 2 ∧ r37 = σ 7 6) ∨ (¬ σ 7 4 = 2 ∧ r37 = -1) := t38
              obtain rfl : r4 = r37 := by omega
              clear t38
              skip
              have hk1 : ¬ qkd x.1 x.2.1 x.2.2 p = 0 ∧ ¬ qkd x.1 x.2.1 x.2.2 p = 4 := by first | omega | exact (cT_nks hT).1 (by omega)
              refine And.intro (cT_nx ⟨(cT_b (cT_b hT (by decide)) (by decide)), hk1⟩) (fun s1 (σ1 : vS) ha1 f1 t1_ => ?_)
              have T1 : cT x (qnx x.1 x.2.1 p) σ1 := cT_next (cT_b (cT_b hT (by decide)) (by decide)) hk1 ha1 f1 t1_
              clear ha1
              have F1 : cBf σ σ1 := cBf_cg (cBf_up (by decide) (cBf_up (by decide) cBf_refl)) (cg_of f1)
              have N1 : σ1 0 4 = σ 0 4 := (congrFun ((cg_of f1).1 0 (by decide)) 4).trans ((congrFun (vup_fr (by decide)) 4).trans ((congrFun (vup_fr (by decide)) 4).trans (rfl : σ 0 4 = σ 0 4)))
              have r1_13 : σ1 13 = ful (σ 13) (σ 0 4) r4 := ((cg_of f1).1 13 (by decide)).trans (vup_f.trans (ful_cg ((vup_fr (by decide)).trans (rfl : σ 13 = σ 13)) (rfl : σ 0 4 = σ 0 4)))
              have r1_14 : σ1 14 = ful (σ 14) (σ 0 4) (-1) := ((cg_of f1).1 14 (by decide)).trans ((vup_fr (by decide)).trans (vup_f.trans (ful_cg (rfl : σ 14 = σ 14) (rfl : σ 0 4 = σ 0 4))))
              have r1_15 : σ1 15 = σ 15 := ((cg_of f1).1 15 (by decide)).trans ((vup_fr (by decide)).trans ((vup_fr (by decide)).trans (rfl : σ 15 = σ 15)))
              have r1_16 : σ1 16 = σ 16 := ((cg_of f1).1 16 (by decide)).trans ((vup_fr (by decide)).trans ((vup_fr (by decide)).trans (rfl : σ 16 = σ 16)))
              refine And.intro (fun (q : ¬ r4 = 17) => (by exfalso; omega)) (fun _ => ?_)
              refine ⟨by omega, x, ((qnx x.1 x.2.1 p), S.2), S.2.1 2, T1, (cSn_b hS F1).1, hS.2, fun q => absurd q (by decide), fun q => absurd q (by decide), fun _ => ⟨rfl, fun c2 (σ2 : vS) fl2 g2 => ?_, fun c2 => ?_⟩⟩
              · have c2 : (qlf x S.2.2 12 (S.2.1 2) (qnx x.1 x.2.1 p)) < 0 := c2
                have fl2 : cFl x (-(qlf x S.2.2 12 (S.2.1 2) (qnx x.1 x.2.1 p))) (qnx x.1 x.2.1 p) σ2 := fl2
                have F2 : cBf σ σ2 := cBf_cg F1 g2
                have N2 : σ2 0 4 = σ 0 4 := (congrFun (g2.1 0 (by decide)) 4).trans N1
                have r2_13 : σ2 13 = ful (σ 13) (σ 0 4) r4 := (g2.1 13 (by decide)).trans r1_13
                have r2_14 : σ2 14 = ful (σ 14) (σ 0 4) (-1) := (g2.1 14 (by decide)).trans r1_14
                have r2_15 : σ2 15 = σ 15 := (g2.1 15 (by decide)).trans r1_15
                have r2_16 : σ2 16 = σ 16 := (g2.1 16 (by decide)).trans r1_16
                refine And.intro (fun _ => ?_) (fun (q : ¬ (-1) = (-1)) => absurd q (by decide))
                refine And.intro (show 0 ≤ 0 ∧ 0 ≤ 1 from by omega) ?_
                refine And.intro (show 0 ≤ 0 ∧ 0 ≤ 1 from by omega) ?_
                refine And.intro (fun _ => ?_) (fun (q : ¬ 0 = 0) => absurd q (by decide))
                refine And.intro (show 0 ≤ 0 ∧ 0 ≤ 1 from by omega) ?_
                have hv : qVe x p = 8 := by have := (cT_ev hT).1 (by omega); omega
                have hz := qlf_b (x := x) (nm := S.2.2) (p := (qnx x.1 x.2.1 p)) (S.2.1 2) 12 hH2.1
                have eL : (qLn x S.2.2 (S.2.1 1) (S.2.1 2) (σ 0 4) p) = (-(qlf x S.2.2 12 (S.2.1 2) (qnx x.1 x.2.1 p)), (qnx x.1 x.2.1 p)) := (qLn_r hv (by omega)).trans (qRm_f c2)
                rw [eL] at hF
                exact hF (fun q => hz.2.2 ⟨c2, q⟩) σ2 fl2 F2 N2 (fun t t0 t1 j j1 => by
                  rcases (show t = 13 ∨ t = 14 ∨ t = 15 ∨ t = 16 by omega) with rfl | rfl | rfl | rfl
                  · exact (congrFun r2_13 j).trans (ful_ne (by omega))
                  · exact (congrFun r2_14 j).trans (ful_ne (by omega))
                  · exact congrFun r2_15 j
                  · exact congrFun r2_16 j)
              · have c2 : 0 ≤ (qlf x S.2.2 12 (S.2.1 2) (qnx x.1 x.2.1 p)) := c2
                have kq2 := qlf_k c2
                have bq2 := qlf_u (m := S.2.1 2) hH2.1 c2
                have eR2 : qlk x 12 (S.2.1 2) ((qnx x.1 x.2.1 p), S.2) = (qlf x S.2.2 12 (S.2.1 2) (qnx x.1 x.2.1 p)) := rfl
                rw [eR2]
                refine And.intro (fun (q : ((qlf x S.2.2 12 (S.2.1 2) (qnx x.1 x.2.1 p))) = (-1)) => (by exfalso; omega)) (fun _ => ?_)
                refine And.intro (fun (c39 : (σ1 0 4) < 40) => ?_) (fun (c40 : 40 ≤ (σ1 0 4)) => ?_)
                · refine And.intro (show 0 ≤ (σ1 0 4) ∧ (σ1 0 4) < 40 from by omega) ?_
                  refine And.intro (show 0 ≤ ((qlf x S.2.2 12 (S.2.1 2) (qnx x.1 x.2.1 p))) ∧ ((qlf x S.2.2 12 (S.2.1 2) (qnx x.1 x.2.1 p))) ≤ 60 from by omega) ?_
                  have hk3 : ¬ qkd x.1 x.2.1 x.2.2 (qnx x.1 x.2.1 p) = 0 ∧ ¬ qkd x.1 x.2.1 x.2.2 (qnx x.1 x.2.1 p) = 4 := by first | omega | exact (cT_nks T1).1 (by omega)
                  refine And.intro (cT_nx ⟨(cT_b T1 (by decide)), hk3⟩) (fun s3 (σ3 : vS) ha3 f3 t3_ => ?_)
                  have T3 : cT x (qnx x.1 x.2.1 (qnx x.1 x.2.1 p)) σ3 := cT_next (cT_b T1 (by decide)) hk3 ha3 f3 t3_
                  clear ha3
                  have F3 : cBf σ σ3 := cBf_cg (cBf_up (by decide) F1) (cg_of f3)
                  have N3 : σ3 0 4 = σ 0 4 := (congrFun ((cg_of f3).1 0 (by decide)) 4).trans ((congrFun (vup_fr (by decide)) 4).trans N1)
                  have r3_13 : σ3 13 = ful (σ 13) (σ 0 4) r4 := ((cg_of f3).1 13 (by decide)).trans ((vup_fr (by decide)).trans r1_13)
                  have r3_14 : σ3 14 = ful (σ 14) (σ 0 4) (-1) := ((cg_of f3).1 14 (by decide)).trans ((vup_fr (by decide)).trans r1_14)
                  have r3_15 : σ3 15 = ful (σ 15) (σ 0 4) ((qlf x S.2.2 12 (S.2.1 2) (qnx x.1 x.2.1 p))) := ((cg_of f3).1 15 (by decide)).trans (vup_f.trans (ful_cg r1_15 N1))
                  have r3_16 : σ3 16 = σ 16 := ((cg_of f3).1 16 (by decide)).trans ((vup_fr (by decide)).trans r1_16)
                  refine And.intro (show 0 ≤ 1 ∧ 1 ≤ 1 from by omega) ?_
                  refine And.intro (show 0 ≤ 1 ∧ 1 ≤ 1 from by omega) ?_
                  refine And.intro (fun (q : 1 = 0) => absurd q (by decide)) (fun _ => ?_)
                  refine ⟨x, (qnx x.1 x.2.1 (qnx x.1 x.2.1 p)), T3, fun e4 (σ4 : vS) fl4 g4 => ?_, fun e4 (σ4 : vS) T4 g4 => ?_⟩
                  · have F4 : cBf σ σ4 := cBf_cg F3 g4
                    have N4 : σ4 0 4 = σ 0 4 := (congrFun (g4.1 0 (by decide)) 4).trans N3
                    have r4_13 : σ4 13 = ful (σ 13) (σ 0 4) r4 := (g4.1 13 (by decide)).trans r3_13
                    have r4_14 : σ4 14 = ful (σ 14) (σ 0 4) (-1) := (g4.1 14 (by decide)).trans r3_14
                    have r4_15 : σ4 15 = ful (σ 15) (σ 0 4) ((qlf x S.2.2 12 (S.2.1 2) (qnx x.1 x.2.1 p))) := (g4.1 15 (by decide)).trans r3_15
                    have r4_16 : σ4 16 = σ 16 := (g4.1 16 (by decide)).trans r3_16
                    refine And.intro (fun (q : ¬ 0 = 0) => absurd q (by decide)) (fun _ => ?_)
                    refine And.intro (show 0 ≤ 0 ∧ 0 ≤ 1 from by omega) ?_
                    have hv : qVe x p = 8 := by have := (cT_ev hT).1 (by omega); omega
                    have eL : (qLn x S.2.2 (S.2.1 1) (S.2.1 2) (σ 0 4) p) = (0, (qnx x.1 x.2.1 (qnx x.1 x.2.1 p))) := (qLn_r hv (by omega)).trans (qRm_s c2)
                    rw [eL] at hG
                    exact (hG rfl).1 e4 σ4 fl4 F4 N4 (fun t t0 t1 j j1 => by
                      rcases (show t = 13 ∨ t = 14 ∨ t = 15 ∨ t = 16 by omega) with rfl | rfl | rfl | rfl
                      · exact (congrFun r4_13 j).trans (ful_ne (by omega))
                      · exact (congrFun r4_14 j).trans (ful_ne (by omega))
                      · exact (congrFun r4_15 j).trans (ful_ne (by omega))
                      · exact congrFun r4_16 j)
                  · have F4 : cBf σ σ4 := cBf_cg F3 g4
                    have N4 : σ4 0 4 = σ 0 4 := (congrFun (g4.1 0 (by decide)) 4).trans N3
                    have r4_13 : σ4 13 = ful (σ 13) (σ 0 4) r4 := (g4.1 13 (by decide)).trans r3_13
                    have r4_14 : σ4 14 = ful (σ 14) (σ 0 4) (-1) := (g4.1 14 (by decide)).trans r3_14
                    have r4_15 : σ4 15 = ful (σ 15) (σ 0 4) ((qlf x S.2.2 12 (S.2.1 2) (qnx x.1 x.2.1 p))) := (g4.1 15 (by decide)).trans r3_15
                    have r4_16 : σ4 16 = σ 16 := (g4.1 16 (by decide)).trans r3_16
                    refine And.intro (fun _ => ?_) (fun (q : 1 = 0) => absurd q (by decide))
                    refine And.intro (show -2147483648 ≤ ((σ4 0 4) + 1) ∧ ((σ4 0 4) + 1) ≤ 2147483647 from by omega) ?_
                    refine And.intro (show 0 ≤ ((σ4 0 4) + 1) ∧ ((σ4 0 4) + 1) ≤ 40 from by omega) ?_
                    refine And.intro (show 0 ≤ 1 ∧ 1 ≤ 1 from by omega) ?_
                    have hv : qVe x p = 8 := by have := (cT_ev hT).1 (by omega); omega
                    have eL : (qLn x S.2.2 (S.2.1 1) (S.2.1 2) (σ 0 4) p) = (0, (qnx x.1 x.2.1 (qnx x.1 x.2.1 p))) := (qLn_r hv (by omega)).trans (qRm_s c2)
                    rw [eL] at hG
                    exact (hG rfl).2 e4 (vup σ4 0 4 ((σ4 0 4) + 1)) (cT_b T4 (by decide)) (cBf_up (by decide) F4) (show σ4 0 4 + 1 = σ 0 4 + 1 from by rw [N4]) (fun t t0 t1 j j1 => by
                      rcases (show t = 13 ∨ t = 14 ∨ t = 15 ∨ t = 16 by omega) with rfl | rfl | rfl | rfl
                      · exact (congrFun ((vup_fr (by decide)).trans r4_13) j).trans (ful_ne (by omega))
                      · exact (congrFun ((vup_fr (by decide)).trans r4_14) j).trans (ful_ne (by omega))
                      · exact (congrFun ((vup_fr (by decide)).trans r4_15) j).trans (ful_ne (by omega))
                      · exact congrFun ((vup_fr (by decide)).trans r4_16) j) (cRow_of ((congrFun ((vup_fr (by decide)).trans r4_13) (σ 0 4)).trans ful_at) ((congrFun ((vup_fr (by decide)).trans r4_14) (σ 0 4)).trans ful_at) ((congrFun ((vup_fr (by decide)).trans r4_15) (σ 0 4)).trans ful_at) rfl (Or.inr (Or.inr (Or.inr (Or.inr (Or.inr (Or.inr (Or.inl ⟨by omega, by omega, by omega, by omega⟩))))))))
                · refine And.intro (show 0 ≤ 0 ∧ 0 ≤ 1 from by omega) ?_
                  refine And.intro (show 0 ≤ 0 ∧ 0 ≤ 1 from by omega) ?_
                  refine And.intro (fun _ => ?_) (fun (q : ¬ 0 = 0) => absurd q (by decide))
                  refine And.intro (show 0 ≤ 0 ∧ 0 ≤ 1 from by omega) ?_
                  exfalso; omega
            · refine And.intro (cT_fl hT (by omega)) ?_
              refine And.intro (show 0 ≤ 0 ∧ 0 ≤ 1 from by omega) ?_
              have hv := (cT_ev hT).1 (by omega)
              have eL : (qLn x S.2.2 (S.2.1 1) (S.2.1 2) (σ 0 4) p) = (4, p) := qLn_4 (by omega) (by omega)
              rw [eL] at hF
              exact hF (by show ¬ ((4 : Int) = 0); decide) (vup (vup σ 7 2 4) 7 3 (σ 7 5)) (cFl_of hT) (cBf_cg cBf_refl cg_fl) ((congrFun (vup_fr (by decide)) 4).trans ((congrFun (vup_fr (by decide)) 4).trans (rfl : σ 0 4 = σ 0 4))) (fun t t0 t1 j j1 => by
                rcases (show t = 13 ∨ t = 14 ∨ t = 15 ∨ t = 16 by omega) with rfl | rfl | rfl | rfl
                · exact congrFun ((vup_fr (by decide)).trans ((vup_fr (by decide)).trans (rfl : σ 13 = σ 13))) j
                · exact congrFun ((vup_fr (by decide)).trans ((vup_fr (by decide)).trans (rfl : σ 14 = σ 14))) j
                · exact congrFun ((vup_fr (by decide)).trans ((vup_fr (by decide)).trans (rfl : σ 15 = σ 15))) j
                · exact congrFun ((vup_fr (by decide)).trans ((vup_fr (by decide)).trans (rfl : σ 16 = σ 16))) j)
          · refine And.intro (fun (c41 : ¬ r4 = 18) => ?_) (fun (c42 : r4 = 18) => ?_)
            · refine And.intro (show 0 ≤ 0 ∧ 0 ≤ 1 from by omega) ?_
              refine And.intro (fun (q : ¬ 0 = 0) => absurd q (by decide)) (fun _ => ?_)
              refine And.intro (cT_fl hT (by omega)) ?_
              refine And.intro (show 0 ≤ 0 ∧ 0 ≤ 1 from by omega) ?_
              have hv : qVe x p = -1 := (cT_ev hT).2 (by omega)
              have eL : (qLn x S.2.2 (S.2.1 1) (S.2.1 2) (σ 0 4) p) = (1, p) := qLn_w hH1.1 hv (cT_qm1 hT (by omega))
              rw [eL] at hF
              exact hF (by show ¬ ((1 : Int) = 0); decide) (vup (vup σ 7 2 1) 7 3 (σ 7 5)) (cFl_of hT) (cBf_cg cBf_refl cg_fl) ((congrFun (vup_fr (by decide)) 4).trans ((congrFun (vup_fr (by decide)) 4).trans (rfl : σ 0 4 = σ 0 4))) (fun t t0 t1 j j1 => by
                rcases (show t = 13 ∨ t = 14 ∨ t = 15 ∨ t = 16 by omega) with rfl | rfl | rfl | rfl
                · exact congrFun ((vup_fr (by decide)).trans ((vup_fr (by decide)).trans (rfl : σ 13 = σ 13))) j
                · exact congrFun ((vup_fr (by decide)).trans ((vup_fr (by decide)).trans (rfl : σ 14 = σ 14))) j
                · exact congrFun ((vup_fr (by decide)).trans ((vup_fr (by decide)).trans (rfl : σ 15 = σ 15))) j
                · exact congrFun ((vup_fr (by decide)).trans ((vup_fr (by decide)).trans (rfl : σ 16 = σ 16))) j)
            · refine And.intro (show 0 ≤ 1 ∧ 1 ≤ 1 from by omega) ?_
              refine And.intro (fun _ => ?_) (fun (q : 1 = 0) => absurd q (by decide))
              have f43 : 0 ≤ σ 0 4 ∧ σ 0 4 ≤ 40 := zfC hb (t := 0) (f := 4) (by decide +kernel)
              refine And.intro (fun (c44 : (σ 0 4) < 40) => ?_) (fun (c45 : 40 ≤ (σ 0 4)) => ?_)
              · refine And.intro (fun _ => ?_) (fun (q : ¬ (-1) = (-1)) => absurd q (by decide))
                refine And.intro (show 0 ≤ (σ 0 4) ∧ (σ 0 4) < 40 from by omega) ?_
                refine And.intro (show Int.negSucc 0 ≤ (-1) ∧ (-1) ≤ 5 from rgm (by omega)) ?_
                refine fun (r46 : Int) (t47 : ((vup σ 14 (σ 0 4) (-1)) 7 4 = 2 ∧ r46 = (vup σ 14 (σ 0 4) (-1)) 7 6) ∨ (¬ (vup σ 14 (σ 0 4) (-1)) 7 4 = 2 ∧ r46 = -1)) => ?_
                have t47 : (σ 7 4 = 2 ∧ r46 = σ 7 6) ∨ (¬ σ 7 4 = 2 ∧ r46 = -1) := t47
                obtain rfl : r4 = r46 := by omega
                clear t47
                skip
                refine And.intro (show 0 ≤ (σ 0 4) ∧ (σ 0 4) < 40 from by omega) ?_
                refine And.intro (show Int.negSucc 2147483647 ≤ r4 ∧ r4 ≤ 2147483647 from rgm (by omega)) ?_
                refine And.intro (fun (q : ¬ (-1) = (-1)) => absurd q (by decide)) (fun _ => ?_)
                refine fun (r48 : Int) (t49 : ((vup (vup σ 14 (σ 0 4) (-1)) 13 (σ 0 4) r4) 7 4 = 2 ∧ r48 = (vup (vup σ 14 (σ 0 4) (-1)) 13 (σ 0 4) r4) 7 6) ∨ (¬ (vup (vup σ 14 (σ 0 4) (-1)) 13 (σ 0 4) r4) 7 4 = 2 ∧ r48 = -1)) => ?_
                have t49 : (σ 7 4 = 2 ∧ r48 = σ 7 6) ∨ (¬ σ 7 4 = 2 ∧ r48 = -1) := t49
                obtain rfl : r4 = r48 := by omega
                clear t49
                skip
                have hk1 : ¬ qkd x.1 x.2.1 x.2.2 p = 0 ∧ ¬ qkd x.1 x.2.1 x.2.2 p = 4 := by first | omega | exact (cT_nks hT).1 (by omega)
                refine And.intro (cT_nx ⟨(cT_b (cT_b hT (by decide)) (by decide)), hk1⟩) (fun s1 (σ1 : vS) ha1 f1 t1_ => ?_)
                have T1 : cT x (qnx x.1 x.2.1 p) σ1 := cT_next (cT_b (cT_b hT (by decide)) (by decide)) hk1 ha1 f1 t1_
                clear ha1
                have F1 : cBf σ σ1 := cBf_cg (cBf_up (by decide) (cBf_up (by decide) cBf_refl)) (cg_of f1)
                have N1 : σ1 0 4 = σ 0 4 := (congrFun ((cg_of f1).1 0 (by decide)) 4).trans ((congrFun (vup_fr (by decide)) 4).trans ((congrFun (vup_fr (by decide)) 4).trans (rfl : σ 0 4 = σ 0 4)))
                have r1_13 : σ1 13 = ful (σ 13) (σ 0 4) r4 := ((cg_of f1).1 13 (by decide)).trans (vup_f.trans (ful_cg ((vup_fr (by decide)).trans (rfl : σ 13 = σ 13)) (rfl : σ 0 4 = σ 0 4)))
                have r1_14 : σ1 14 = ful (σ 14) (σ 0 4) (-1) := ((cg_of f1).1 14 (by decide)).trans ((vup_fr (by decide)).trans (vup_f.trans (ful_cg (rfl : σ 14 = σ 14) (rfl : σ 0 4 = σ 0 4))))
                have r1_15 : σ1 15 = σ 15 := ((cg_of f1).1 15 (by decide)).trans ((vup_fr (by decide)).trans ((vup_fr (by decide)).trans (rfl : σ 15 = σ 15)))
                have r1_16 : σ1 16 = σ 16 := ((cg_of f1).1 16 (by decide)).trans ((vup_fr (by decide)).trans ((vup_fr (by decide)).trans (rfl : σ 16 = σ 16)))
                refine And.intro (fun _ => ?_) (fun (q : r4 = 17) => (by exfalso; omega))
                refine And.intro (fun (q : ¬ r4 = 18) => (by exfalso; omega)) (fun _ => ?_)
                refine ⟨(cT_fl T1 (by decide : (0 : Int) ≤ 1 ∧ (1 : Int) ≤ 4)).2, fun cu50 => ?_, fun cu50 du50 => ?_, fun cu50 du50 eu50 => ?_⟩
                · have cu50 : ¬ σ1 7 4 = 4 := cu50
                  refine And.intro (fun _ => ?_) (fun (q : ¬ (-1) = (-1)) => absurd q (by decide))
                  refine And.intro (show 0 ≤ 0 ∧ 0 ≤ 1 from by omega) ?_
                  refine And.intro (show 0 ≤ 0 ∧ 0 ≤ 1 from by omega) ?_
                  refine And.intro (fun _ => ?_) (fun (q : ¬ 0 = 0) => absurd q (by decide))
                  refine And.intro (show 0 ≤ 0 ∧ 0 ≤ 1 from by omega) ?_
                  have hv := (cT_ev hT).1 (by omega)
                  have eL : (qLn x S.2.2 (S.2.1 1) (S.2.1 2) (σ 0 4) p) = (1, (qnx x.1 x.2.1 p)) := (qLn_n (by omega) (by omega)).trans ((qNu_hi (by omega)).1 (fun q => cu50 ((cT_nks T1).2.1.mp q)))
                  rw [eL] at hF
                  exact hF (by show ¬ ((1 : Int) = 0); decide) (vup (vup σ1 7 2 1) 7 3 (σ1 7 5)) (cFl_of T1) (cBf_cg F1 cg_fl) ((congrFun (vup_fr (by decide)) 4).trans ((congrFun (vup_fr (by decide)) 4).trans N1)) (fun t t0 t1 j j1 => by
                    rcases (show t = 13 ∨ t = 14 ∨ t = 15 ∨ t = 16 by omega) with rfl | rfl | rfl | rfl
                    · exact (congrFun ((vup_fr (by decide)).trans ((vup_fr (by decide)).trans r1_13)) j).trans (ful_ne (by omega))
                    · exact (congrFun ((vup_fr (by decide)).trans ((vup_fr (by decide)).trans r1_14)) j).trans (ful_ne (by omega))
                    · exact congrFun ((vup_fr (by decide)).trans ((vup_fr (by decide)).trans r1_15)) j
                    · exact congrFun ((vup_fr (by decide)).trans ((vup_fr (by decide)).trans r1_16)) j)
                · have cu50 : σ1 7 4 = 4 := cu50
                  have du50 : σ1 7 6 < 1 ∨ 60 < σ1 7 6 := du50
                  refine And.intro (fun _ => ?_) (fun (q : ¬ (-1) = (-1)) => absurd q (by decide))
                  refine And.intro (show 0 ≤ 0 ∧ 0 ≤ 1 from by omega) ?_
                  refine And.intro (show 0 ≤ 0 ∧ 0 ≤ 1 from by omega) ?_
                  refine And.intro (fun _ => ?_) (fun (q : ¬ 0 = 0) => absurd q (by decide))
                  refine And.intro (show 0 ≤ 0 ∧ 0 ≤ 1 from by omega) ?_
                  have hv := (cT_ev hT).1 (by omega)
                  have eL : (qLn x S.2.2 (S.2.1 1) (S.2.1 2) (σ 0 4) p) = (2, (qnx x.1 x.2.1 p)) := (qLn_n (by omega) (by omega)).trans ((qNu_hi (by omega)).2.1 (cT_nv T1 cu50).1 (by rw [← (cT_nv T1 cu50).2]; omega))
                  rw [eL] at hF
                  exact hF (by show ¬ ((2 : Int) = 0); decide) (vup (vup σ1 7 2 2) 7 3 (σ1 7 5)) (cFl_of T1) (cBf_cg F1 cg_fl) ((congrFun (vup_fr (by decide)) 4).trans ((congrFun (vup_fr (by decide)) 4).trans N1)) (fun t t0 t1 j j1 => by
                    rcases (show t = 13 ∨ t = 14 ∨ t = 15 ∨ t = 16 by omega) with rfl | rfl | rfl | rfl
                    · exact (congrFun ((vup_fr (by decide)).trans ((vup_fr (by decide)).trans r1_13)) j).trans (ful_ne (by omega))
                    · exact (congrFun ((vup_fr (by decide)).trans ((vup_fr (by decide)).trans r1_14)) j).trans (ful_ne (by omega))
                    · exact congrFun ((vup_fr (by decide)).trans ((vup_fr (by decide)).trans r1_15)) j
                    · exact congrFun ((vup_fr (by decide)).trans ((vup_fr (by decide)).trans r1_16)) j)
                · have cu50 : σ1 7 4 = 4 := cu50
                  have du50 : 1 ≤ σ1 7 6 := du50
                  have eu50 : σ1 7 6 ≤ 60 := eu50
                  have zu50 : σ1 7 6 = σ1 7 6 := rfl
                  rw [zu50]
                  refine And.intro (fun (q : (σ1 7 6) = (-1)) => (by exfalso; omega)) (fun _ => ?_)
                  refine And.intro (fun (c51 : (σ1 0 4) < 40) => ?_) (fun (c52 : 40 ≤ (σ1 0 4)) => ?_)
                  · refine And.intro (show 0 ≤ (σ1 0 4) ∧ (σ1 0 4) < 40 from by omega) ?_
                    refine And.intro (show 0 ≤ (σ1 7 6) ∧ (σ1 7 6) ≤ 60 from by omega) ?_
                    have hk2 : ¬ qkd x.1 x.2.1 x.2.2 (qnx x.1 x.2.1 p) = 0 ∧ ¬ qkd x.1 x.2.1 x.2.2 (qnx x.1 x.2.1 p) = 4 := by first | omega | exact (cT_nks T1).1 (by omega)
                    refine And.intro (cT_nx ⟨(cT_b T1 (by decide)), hk2⟩) (fun s2 (σ2 : vS) ha2 f2 t2_ => ?_)
                    have T2 : cT x (qnx x.1 x.2.1 (qnx x.1 x.2.1 p)) σ2 := cT_next (cT_b T1 (by decide)) hk2 ha2 f2 t2_
                    clear ha2
                    have F2 : cBf σ σ2 := cBf_cg (cBf_up (by decide) F1) (cg_of f2)
                    have N2 : σ2 0 4 = σ 0 4 := (congrFun ((cg_of f2).1 0 (by decide)) 4).trans ((congrFun (vup_fr (by decide)) 4).trans N1)
                    have r2_13 : σ2 13 = ful (σ 13) (σ 0 4) r4 := ((cg_of f2).1 13 (by decide)).trans ((vup_fr (by decide)).trans r1_13)
                    have r2_14 : σ2 14 = ful (σ 14) (σ 0 4) (-1) := ((cg_of f2).1 14 (by decide)).trans ((vup_fr (by decide)).trans r1_14)
                    have r2_15 : σ2 15 = ful (σ 15) (σ 0 4) (σ1 7 6) := ((cg_of f2).1 15 (by decide)).trans (vup_f.trans (ful_cg r1_15 N1))
                    have r2_16 : σ2 16 = σ 16 := ((cg_of f2).1 16 (by decide)).trans ((vup_fr (by decide)).trans r1_16)
                    refine And.intro (show 0 ≤ 1 ∧ 1 ≤ 1 from by omega) ?_
                    refine And.intro (show 0 ≤ 1 ∧ 1 ≤ 1 from by omega) ?_
                    refine And.intro (fun (q : 1 = 0) => absurd q (by decide)) (fun _ => ?_)
                    refine ⟨x, (qnx x.1 x.2.1 (qnx x.1 x.2.1 p)), T2, fun e3 (σ3 : vS) fl3 g3 => ?_, fun e3 (σ3 : vS) T3 g3 => ?_⟩
                    · have F3 : cBf σ σ3 := cBf_cg F2 g3
                      have N3 : σ3 0 4 = σ 0 4 := (congrFun (g3.1 0 (by decide)) 4).trans N2
                      have r3_13 : σ3 13 = ful (σ 13) (σ 0 4) r4 := (g3.1 13 (by decide)).trans r2_13
                      have r3_14 : σ3 14 = ful (σ 14) (σ 0 4) (-1) := (g3.1 14 (by decide)).trans r2_14
                      have r3_15 : σ3 15 = ful (σ 15) (σ 0 4) (σ1 7 6) := (g3.1 15 (by decide)).trans r2_15
                      have r3_16 : σ3 16 = σ 16 := (g3.1 16 (by decide)).trans r2_16
                      refine And.intro (fun (q : ¬ 0 = 0) => absurd q (by decide)) (fun _ => ?_)
                      refine And.intro (show 0 ≤ 0 ∧ 0 ≤ 1 from by omega) ?_
                      have hv := (cT_ev hT).1 (by omega)
                      have eL : (qLn x S.2.2 (S.2.1 1) (S.2.1 2) (σ 0 4) p) = (0, (qnx x.1 x.2.1 (qnx x.1 x.2.1 p))) := (qLn_n (by omega) (by omega)).trans ((qNu_hi (by omega)).2.2 (cT_nv T1 cu50).1 (by rw [← (cT_nv T1 cu50).2]; omega))
                      rw [eL] at hG
                      exact (hG rfl).1 e3 σ3 fl3 F3 N3 (fun t t0 t1 j j1 => by
                        rcases (show t = 13 ∨ t = 14 ∨ t = 15 ∨ t = 16 by omega) with rfl | rfl | rfl | rfl
                        · exact (congrFun r3_13 j).trans (ful_ne (by omega))
                        · exact (congrFun r3_14 j).trans (ful_ne (by omega))
                        · exact (congrFun r3_15 j).trans (ful_ne (by omega))
                        · exact congrFun r3_16 j)
                    · have F3 : cBf σ σ3 := cBf_cg F2 g3
                      have N3 : σ3 0 4 = σ 0 4 := (congrFun (g3.1 0 (by decide)) 4).trans N2
                      have r3_13 : σ3 13 = ful (σ 13) (σ 0 4) r4 := (g3.1 13 (by decide)).trans r2_13
                      have r3_14 : σ3 14 = ful (σ 14) (σ 0 4) (-1) := (g3.1 14 (by decide)).trans r2_14
                      have r3_15 : σ3 15 = ful (σ 15) (σ 0 4) (σ1 7 6) := (g3.1 15 (by decide)).trans r2_15
                      have r3_16 : σ3 16 = σ 16 := (g3.1 16 (by decide)).trans r2_16
                      refine And.intro (fun _ => ?_) (fun (q : 1 = 0) => absurd q (by decide))
                      refine And.intro (show -2147483648 ≤ ((σ3 0 4) + 1) ∧ ((σ3 0 4) + 1) ≤ 2147483647 from by omega) ?_
                      refine And.intro (show 0 ≤ ((σ3 0 4) + 1) ∧ ((σ3 0 4) + 1) ≤ 40 from by omega) ?_
                      refine And.intro (show 0 ≤ 1 ∧ 1 ≤ 1 from by omega) ?_
                      have hv := (cT_ev hT).1 (by omega)
                      have eL : (qLn x S.2.2 (S.2.1 1) (S.2.1 2) (σ 0 4) p) = (0, (qnx x.1 x.2.1 (qnx x.1 x.2.1 p))) := (qLn_n (by omega) (by omega)).trans ((qNu_hi (by omega)).2.2 (cT_nv T1 cu50).1 (by rw [← (cT_nv T1 cu50).2]; omega))
                      rw [eL] at hG
                      exact (hG rfl).2 e3 (vup σ3 0 4 ((σ3 0 4) + 1)) (cT_b T3 (by decide)) (cBf_up (by decide) F3) (show σ3 0 4 + 1 = σ 0 4 + 1 from by rw [N3]) (fun t t0 t1 j j1 => by
                        rcases (show t = 13 ∨ t = 14 ∨ t = 15 ∨ t = 16 by omega) with rfl | rfl | rfl | rfl
                        · exact (congrFun ((vup_fr (by decide)).trans r3_13) j).trans (ful_ne (by omega))
                        · exact (congrFun ((vup_fr (by decide)).trans r3_14) j).trans (ful_ne (by omega))
                        · exact (congrFun ((vup_fr (by decide)).trans r3_15) j).trans (ful_ne (by omega))
                        · exact congrFun ((vup_fr (by decide)).trans r3_16) j) (cRow_of ((congrFun ((vup_fr (by decide)).trans r3_13) (σ 0 4)).trans ful_at) ((congrFun ((vup_fr (by decide)).trans r3_14) (σ 0 4)).trans ful_at) ((congrFun ((vup_fr (by decide)).trans r3_15) (σ 0 4)).trans ful_at) rfl (Or.inr (Or.inr (Or.inr (Or.inr (Or.inr (Or.inr (Or.inr (⟨by omega, by omega, by omega, by omega⟩)))))))))
                  · refine And.intro (show 0 ≤ 0 ∧ 0 ≤ 1 from by omega) ?_
                    refine And.intro (show 0 ≤ 0 ∧ 0 ≤ 1 from by omega) ?_
                    refine And.intro (fun _ => ?_) (fun (q : ¬ 0 = 0) => absurd q (by decide))
                    refine And.intro (show 0 ≤ 0 ∧ 0 ≤ 1 from by omega) ?_
                    exfalso; omega
              · refine And.intro (cT_fl hT (by omega)) ?_
                refine And.intro (show 0 ≤ 0 ∧ 0 ≤ 1 from by omega) ?_
                have hv := (cT_ev hT).1 (by omega)
                have eL : (qLn x S.2.2 (S.2.1 1) (S.2.1 2) (σ 0 4) p) = (4, p) := qLn_4 (by omega) (by omega)
                rw [eL] at hF
                exact hF (by show ¬ ((4 : Int) = 0); decide) (vup (vup σ 7 2 4) 7 3 (σ 7 5)) (cFl_of hT) (cBf_cg cBf_refl cg_fl) ((congrFun (vup_fr (by decide)) 4).trans ((congrFun (vup_fr (by decide)) 4).trans (rfl : σ 0 4 = σ 0 4))) (fun t t0 t1 j j1 => by
                  rcases (show t = 13 ∨ t = 14 ∨ t = 15 ∨ t = 16 by omega) with rfl | rfl | rfl | rfl
                  · exact congrFun ((vup_fr (by decide)).trans ((vup_fr (by decide)).trans (rfl : σ 13 = σ 13))) j
                  · exact congrFun ((vup_fr (by decide)).trans ((vup_fr (by decide)).trans (rfl : σ 14 = σ 14))) j
                  · exact congrFun ((vup_fr (by decide)).trans ((vup_fr (by decide)).trans (rfl : σ 15 = σ 15))) j
                  · exact congrFun ((vup_fr (by decide)).trans ((vup_fr (by decide)).trans (rfl : σ 16 = σ 16))) j)
    · refine ⟨by omega, x, (p, S.2), S.2.1 1, hT, (cSn_b hS cBf_refl).1, hS.2, fun q => absurd q (by decide), fun _ => ⟨rfl, fun c1 (σ1 : vS) fl1 g1 => ?_, fun c1 => ?_⟩, fun q => absurd q (by decide)⟩
      · have c1 : (qlf x S.2.2 6 (S.2.1 1) p) < 0 := c1
        have fl1 : cFl x (-(qlf x S.2.2 6 (S.2.1 1) p)) p σ1 := fl1
        have F1 : cBf σ σ1 := cBf_cg cBf_refl g1
        have N1 : σ1 0 4 = σ 0 4 := (congrFun (g1.1 0 (by decide)) 4).trans (rfl : σ 0 4 = σ 0 4)
        have r1_13 : σ1 13 = σ 13 := (g1.1 13 (by decide)).trans (rfl : σ 13 = σ 13)
        have r1_14 : σ1 14 = σ 14 := (g1.1 14 (by decide)).trans (rfl : σ 14 = σ 14)
        have r1_15 : σ1 15 = σ 15 := (g1.1 15 (by decide)).trans (rfl : σ 15 = σ 15)
        have r1_16 : σ1 16 = σ 16 := (g1.1 16 (by decide)).trans (rfl : σ 16 = σ 16)
        refine And.intro (fun (q : ¬ (-1) = (-1)) => absurd q (by decide)) (fun _ => ?_)
        refine And.intro (show 0 ≤ 0 ∧ 0 ≤ 1 from by omega) ?_
        have hv : qVe x p = -1 := (cT_ev hT).2 (by omega)
        have hz := qlf_b (x := x) (nm := S.2.2) (p := p) (S.2.1 1) 6 hH1.1
        have eL : (qLn x S.2.2 (S.2.1 1) (S.2.1 2) (σ 0 4) p) = (-(qlf x S.2.2 6 (S.2.1 1) p), p) := qLn_o hv c1 hH1.1
        rw [eL] at hF
        exact hF (fun q => hz.2.2 ⟨c1, q⟩) σ1 fl1 F1 N1 (fun t t0 t1 j j1 => by
          rcases (show t = 13 ∨ t = 14 ∨ t = 15 ∨ t = 16 by omega) with rfl | rfl | rfl | rfl
          · exact congrFun r1_13 j
          · exact congrFun r1_14 j
          · exact congrFun r1_15 j
          · exact congrFun r1_16 j)
      · have c1 : 0 ≤ (qlf x S.2.2 6 (S.2.1 1) p) := c1
        have kq1 := qlf_k c1
        have bq1 := qlf_u (m := S.2.1 1) hH1.1 c1
        have eR1 : qlk x 6 (S.2.1 1) (p, S.2) = (qlf x S.2.2 6 (S.2.1 1) p) := rfl
        rw [eR1]
        refine And.intro (fun _ => ?_) (fun (q : ((qlf x S.2.2 6 (S.2.1 1) p)) = (-1)) => (by exfalso; omega))
        have f53 : 0 ≤ σ 0 4 ∧ σ 0 4 ≤ 40 := zfC hb (t := 0) (f := 4) (by decide +kernel)
        refine And.intro (fun (c54 : (σ 0 4) < 40) => ?_) (fun (c55 : 40 ≤ (σ 0 4)) => ?_)
        · refine And.intro (fun (q : ((qlf x S.2.2 6 (S.2.1 1) p)) = (-1)) => (by exfalso; omega)) (fun _ => ?_)
          have hk2 : ¬ qkd x.1 x.2.1 x.2.2 p = 0 ∧ ¬ qkd x.1 x.2.1 x.2.2 p = 4 := by first | omega | exact (cT_nks hT).1 (by omega)
          refine And.intro (cT_nx ⟨hT, hk2⟩) (fun s2 (σ2 : vS) ha2 f2 t2_ => ?_)
          have T2 : cT x (qnx x.1 x.2.1 p) σ2 := cT_next hT hk2 ha2 f2 t2_
          clear ha2
          have F2 : cBf σ σ2 := cBf_cg cBf_refl (cg_of f2)
          have N2 : σ2 0 4 = σ 0 4 := (congrFun ((cg_of f2).1 0 (by decide)) 4).trans (rfl : σ 0 4 = σ 0 4)
          have r2_13 : σ2 13 = σ 13 := ((cg_of f2).1 13 (by decide)).trans (rfl : σ 13 = σ 13)
          have r2_14 : σ2 14 = σ 14 := ((cg_of f2).1 14 (by decide)).trans (rfl : σ 14 = σ 14)
          have r2_15 : σ2 15 = σ 15 := ((cg_of f2).1 15 (by decide)).trans (rfl : σ 15 = σ 15)
          have r2_16 : σ2 16 = σ 16 := ((cg_of f2).1 16 (by decide)).trans (rfl : σ 16 = σ 16)
          refine And.intro (show 0 ≤ (σ2 0 4) ∧ (σ2 0 4) < 40 from by omega) ?_
          refine And.intro (show Int.negSucc 0 ≤ ((qlf x S.2.2 6 (S.2.1 1) p)) ∧ ((qlf x S.2.2 6 (S.2.1 1) p)) ≤ 5 from rgm (by omega)) ?_
          refine fun (r56 : Int) (t57 : ((vup σ2 14 (σ2 0 4) ((qlf x S.2.2 6 (S.2.1 1) p))) 7 4 = 2 ∧ r56 = (vup σ2 14 (σ2 0 4) ((qlf x S.2.2 6 (S.2.1 1) p))) 7 6) ∨ (¬ (vup σ2 14 (σ2 0 4) ((qlf x S.2.2 6 (S.2.1 1) p))) 7 4 = 2 ∧ r56 = -1)) => ?_
          have t57 : (σ2 7 4 = 2 ∧ r56 = σ2 7 6) ∨ (¬ σ2 7 4 = 2 ∧ r56 = -1) := t57
          have br56 : -1 ≤ r56 ∧ r56 ≤ 29 := cT_kb T2 t57
          refine And.intro (show 0 ≤ (σ2 0 4) ∧ (σ2 0 4) < 40 from by omega) ?_
          refine And.intro (show Int.negSucc 2147483647 ≤ r56 ∧ r56 ≤ 2147483647 from rgm (by omega)) ?_
          refine And.intro (fun _ => ?_) (fun (q : ((qlf x S.2.2 6 (S.2.1 1) p)) = (-1)) => (by exfalso; omega))
          refine fun (r58 : Int) (t59 : ((vup (vup σ2 14 (σ2 0 4) ((qlf x S.2.2 6 (S.2.1 1) p))) 13 (σ2 0 4) r56) 7 4 = 2 ∧ r58 = (vup (vup σ2 14 (σ2 0 4) ((qlf x S.2.2 6 (S.2.1 1) p))) 13 (σ2 0 4) r56) 7 6) ∨ (¬ (vup (vup σ2 14 (σ2 0 4) ((qlf x S.2.2 6 (S.2.1 1) p))) 13 (σ2 0 4) r56) 7 4 = 2 ∧ r58 = -1)) => ?_
          have t59 : (σ2 7 4 = 2 ∧ r58 = σ2 7 6) ∨ (¬ σ2 7 4 = 2 ∧ r58 = -1) := t59
          obtain rfl : r56 = r58 := by omega
          clear t59
          skip
          refine And.intro (And.intro (fun (c60 : r56 = 9) => ?_) (And.intro (fun (c61 : r56 = 10) => ?_) (And.intro (fun (c62 : r56 = 11) => ?_) (And.intro (fun (c63 : r56 = 12) => ?_) (And.intro (fun (c64 : r56 = 13) => ?_) (And.intro (fun (c65 : r56 = 14) => ?_) (trivial))))))) (fun (c66 : r56 < 9 ∨ 14 < r56) => ?_)
          · have hk3 : ¬ qkd x.1 x.2.1 x.2.2 (qnx x.1 x.2.1 p) = 0 ∧ ¬ qkd x.1 x.2.1 x.2.2 (qnx x.1 x.2.1 p) = 4 := by first | omega | exact (cT_nks T2).1 (by omega)
            refine And.intro (cT_nx ⟨(cT_b (cT_b T2 (by decide)) (by decide)), hk3⟩) (fun s3 (σ3 : vS) ha3 f3 t3_ => ?_)
            have T3 : cT x (qnx x.1 x.2.1 (qnx x.1 x.2.1 p)) σ3 := cT_next (cT_b (cT_b T2 (by decide)) (by decide)) hk3 ha3 f3 t3_
            clear ha3
            have F3 : cBf σ σ3 := cBf_cg (cBf_up (by decide) (cBf_up (by decide) F2)) (cg_of f3)
            have N3 : σ3 0 4 = σ 0 4 := (congrFun ((cg_of f3).1 0 (by decide)) 4).trans ((congrFun (vup_fr (by decide)) 4).trans ((congrFun (vup_fr (by decide)) 4).trans N2))
            have r3_13 : σ3 13 = ful (σ 13) (σ 0 4) r56 := ((cg_of f3).1 13 (by decide)).trans (vup_f.trans (ful_cg ((vup_fr (by decide)).trans r2_13) N2))
            have r3_14 : σ3 14 = ful (σ 14) (σ 0 4) ((qlf x S.2.2 6 (S.2.1 1) p)) := ((cg_of f3).1 14 (by decide)).trans ((vup_fr (by decide)).trans (vup_f.trans (ful_cg r2_14 N2)))
            have r3_15 : σ3 15 = σ 15 := ((cg_of f3).1 15 (by decide)).trans ((vup_fr (by decide)).trans ((vup_fr (by decide)).trans r2_15))
            have r3_16 : σ3 16 = σ 16 := ((cg_of f3).1 16 (by decide)).trans ((vup_fr (by decide)).trans ((vup_fr (by decide)).trans r2_16))
            refine ⟨by omega, x, ((qnx x.1 x.2.1 (qnx x.1 x.2.1 p)), S.2), S.2.1 2, T3, (cSn_b hS F3).1, hS.2, fun q => absurd q (by decide), fun q => absurd q (by decide), fun _ => ⟨rfl, fun c4 (σ4 : vS) fl4 g4 => ?_, fun c4 => ?_⟩⟩
            · have c4 : (qlf x S.2.2 12 (S.2.1 2) (qnx x.1 x.2.1 (qnx x.1 x.2.1 p))) < 0 := c4
              have fl4 : cFl x (-(qlf x S.2.2 12 (S.2.1 2) (qnx x.1 x.2.1 (qnx x.1 x.2.1 p)))) (qnx x.1 x.2.1 (qnx x.1 x.2.1 p)) σ4 := fl4
              have F4 : cBf σ σ4 := cBf_cg F3 g4
              have N4 : σ4 0 4 = σ 0 4 := (congrFun (g4.1 0 (by decide)) 4).trans N3
              have r4_13 : σ4 13 = ful (σ 13) (σ 0 4) r56 := (g4.1 13 (by decide)).trans r3_13
              have r4_14 : σ4 14 = ful (σ 14) (σ 0 4) ((qlf x S.2.2 6 (S.2.1 1) p)) := (g4.1 14 (by decide)).trans r3_14
              have r4_15 : σ4 15 = σ 15 := (g4.1 15 (by decide)).trans r3_15
              have r4_16 : σ4 16 = σ 16 := (g4.1 16 (by decide)).trans r3_16
              refine And.intro (fun _ => ?_) (fun (q : ¬ (-1) = (-1)) => absurd q (by decide))
              refine And.intro (show 0 ≤ 0 ∧ 0 ≤ 1 from by omega) ?_
              refine And.intro (show 0 ≤ 0 ∧ 0 ≤ 1 from by omega) ?_
              refine And.intro (fun _ => ?_) (fun (q : ¬ 0 = 0) => absurd q (by decide))
              refine And.intro (show 0 ≤ 0 ∧ 0 ≤ 1 from by omega) ?_
              have hv : qVe x p = -1 := (cT_ev hT).2 (by omega)
              have hd : qVd x (qnx x.1 x.2.1 p) = 0 := by have := (cT_de T2).1 (by omega); omega
              have hz := qlf_b (x := x) (nm := S.2.2) (p := (qnx x.1 x.2.1 (qnx x.1 x.2.1 p))) (S.2.1 2) 12 hH2.1
              have eL : (qLn x S.2.2 (S.2.1 1) (S.2.1 2) (σ 0 4) p) = (-(qlf x S.2.2 12 (S.2.1 2) (qnx x.1 x.2.1 (qnx x.1 x.2.1 p))), (qnx x.1 x.2.1 (qnx x.1 x.2.1 p))) := (qLn_d hv c1 (by omega) hd (by decide)).trans (qD2_rf (by decide) c4 hH2.1)
              rw [eL] at hF
              exact hF (fun q => hz.2.2 ⟨c4, q⟩) σ4 fl4 F4 N4 (fun t t0 t1 j j1 => by
                rcases (show t = 13 ∨ t = 14 ∨ t = 15 ∨ t = 16 by omega) with rfl | rfl | rfl | rfl
                · exact (congrFun r4_13 j).trans (ful_ne (by omega))
                · exact (congrFun r4_14 j).trans (ful_ne (by omega))
                · exact congrFun r4_15 j
                · exact congrFun r4_16 j)
            · have c4 : 0 ≤ (qlf x S.2.2 12 (S.2.1 2) (qnx x.1 x.2.1 (qnx x.1 x.2.1 p))) := c4
              have kq4 := qlf_k c4
              have bq4 := qlf_u (m := S.2.1 2) hH2.1 c4
              have eR4 : qlk x 12 (S.2.1 2) ((qnx x.1 x.2.1 (qnx x.1 x.2.1 p)), S.2) = (qlf x S.2.2 12 (S.2.1 2) (qnx x.1 x.2.1 (qnx x.1 x.2.1 p))) := rfl
              rw [eR4]
              refine And.intro (fun (q : ((qlf x S.2.2 12 (S.2.1 2) (qnx x.1 x.2.1 (qnx x.1 x.2.1 p)))) = (-1)) => (by exfalso; omega)) (fun _ => ?_)
              refine And.intro (fun (c67 : (σ3 0 4) < 40) => ?_) (fun (c68 : 40 ≤ (σ3 0 4)) => ?_)
              · refine And.intro (show 0 ≤ (σ3 0 4) ∧ (σ3 0 4) < 40 from by omega) ?_
                refine And.intro (show 0 ≤ ((qlf x S.2.2 12 (S.2.1 2) (qnx x.1 x.2.1 (qnx x.1 x.2.1 p)))) ∧ ((qlf x S.2.2 12 (S.2.1 2) (qnx x.1 x.2.1 (qnx x.1 x.2.1 p)))) ≤ 60 from by omega) ?_
                have hk5 : ¬ qkd x.1 x.2.1 x.2.2 (qnx x.1 x.2.1 (qnx x.1 x.2.1 p)) = 0 ∧ ¬ qkd x.1 x.2.1 x.2.2 (qnx x.1 x.2.1 (qnx x.1 x.2.1 p)) = 4 := by first | omega | exact (cT_nks T3).1 (by omega)
                refine And.intro (cT_nx ⟨(cT_b T3 (by decide)), hk5⟩) (fun s5 (σ5 : vS) ha5 f5 t5_ => ?_)
                have T5 : cT x (qnx x.1 x.2.1 (qnx x.1 x.2.1 (qnx x.1 x.2.1 p))) σ5 := cT_next (cT_b T3 (by decide)) hk5 ha5 f5 t5_
                clear ha5
                have F5 : cBf σ σ5 := cBf_cg (cBf_up (by decide) F3) (cg_of f5)
                have N5 : σ5 0 4 = σ 0 4 := (congrFun ((cg_of f5).1 0 (by decide)) 4).trans ((congrFun (vup_fr (by decide)) 4).trans N3)
                have r5_13 : σ5 13 = ful (σ 13) (σ 0 4) r56 := ((cg_of f5).1 13 (by decide)).trans ((vup_fr (by decide)).trans r3_13)
                have r5_14 : σ5 14 = ful (σ 14) (σ 0 4) ((qlf x S.2.2 6 (S.2.1 1) p)) := ((cg_of f5).1 14 (by decide)).trans ((vup_fr (by decide)).trans r3_14)
                have r5_15 : σ5 15 = ful (σ 15) (σ 0 4) ((qlf x S.2.2 12 (S.2.1 2) (qnx x.1 x.2.1 (qnx x.1 x.2.1 p)))) := ((cg_of f5).1 15 (by decide)).trans (vup_f.trans (ful_cg r3_15 N3))
                have r5_16 : σ5 16 = σ 16 := ((cg_of f5).1 16 (by decide)).trans ((vup_fr (by decide)).trans r3_16)
                refine And.intro (show 0 ≤ 1 ∧ 1 ≤ 1 from by omega) ?_
                refine And.intro (show 0 ≤ 1 ∧ 1 ≤ 1 from by omega) ?_
                refine And.intro (fun (q : 1 = 0) => absurd q (by decide)) (fun _ => ?_)
                refine ⟨x, (qnx x.1 x.2.1 (qnx x.1 x.2.1 (qnx x.1 x.2.1 p))), T5, fun e6 (σ6 : vS) fl6 g6 => ?_, fun e6 (σ6 : vS) T6 g6 => ?_⟩
                · have F6 : cBf σ σ6 := cBf_cg F5 g6
                  have N6 : σ6 0 4 = σ 0 4 := (congrFun (g6.1 0 (by decide)) 4).trans N5
                  have r6_13 : σ6 13 = ful (σ 13) (σ 0 4) r56 := (g6.1 13 (by decide)).trans r5_13
                  have r6_14 : σ6 14 = ful (σ 14) (σ 0 4) ((qlf x S.2.2 6 (S.2.1 1) p)) := (g6.1 14 (by decide)).trans r5_14
                  have r6_15 : σ6 15 = ful (σ 15) (σ 0 4) ((qlf x S.2.2 12 (S.2.1 2) (qnx x.1 x.2.1 (qnx x.1 x.2.1 p)))) := (g6.1 15 (by decide)).trans r5_15
                  have r6_16 : σ6 16 = σ 16 := (g6.1 16 (by decide)).trans r5_16
                  refine And.intro (fun (q : ¬ 0 = 0) => absurd q (by decide)) (fun _ => ?_)
                  refine And.intro (show 0 ≤ 0 ∧ 0 ≤ 1 from by omega) ?_
                  have hv : qVe x p = -1 := (cT_ev hT).2 (by omega)
                  have hd : qVd x (qnx x.1 x.2.1 p) = 0 := by have := (cT_de T2).1 (by omega); omega
                  have eL : (qLn x S.2.2 (S.2.1 1) (S.2.1 2) (σ 0 4) p) = (0, (qnx x.1 x.2.1 (qnx x.1 x.2.1 (qnx x.1 x.2.1 p)))) := (qLn_d hv c1 (by omega) hd (by decide)).trans (qD2_0 c4)
                  rw [eL] at hG
                  exact (hG rfl).1 e6 σ6 fl6 F6 N6 (fun t t0 t1 j j1 => by
                    rcases (show t = 13 ∨ t = 14 ∨ t = 15 ∨ t = 16 by omega) with rfl | rfl | rfl | rfl
                    · exact (congrFun r6_13 j).trans (ful_ne (by omega))
                    · exact (congrFun r6_14 j).trans (ful_ne (by omega))
                    · exact (congrFun r6_15 j).trans (ful_ne (by omega))
                    · exact congrFun r6_16 j)
                · have F6 : cBf σ σ6 := cBf_cg F5 g6
                  have N6 : σ6 0 4 = σ 0 4 := (congrFun (g6.1 0 (by decide)) 4).trans N5
                  have r6_13 : σ6 13 = ful (σ 13) (σ 0 4) r56 := (g6.1 13 (by decide)).trans r5_13
                  have r6_14 : σ6 14 = ful (σ 14) (σ 0 4) ((qlf x S.2.2 6 (S.2.1 1) p)) := (g6.1 14 (by decide)).trans r5_14
                  have r6_15 : σ6 15 = ful (σ 15) (σ 0 4) ((qlf x S.2.2 12 (S.2.1 2) (qnx x.1 x.2.1 (qnx x.1 x.2.1 p)))) := (g6.1 15 (by decide)).trans r5_15
                  have r6_16 : σ6 16 = σ 16 := (g6.1 16 (by decide)).trans r5_16
                  refine And.intro (fun _ => ?_) (fun (q : 1 = 0) => absurd q (by decide))
                  refine And.intro (show -2147483648 ≤ ((σ6 0 4) + 1) ∧ ((σ6 0 4) + 1) ≤ 2147483647 from by omega) ?_
                  refine And.intro (show 0 ≤ ((σ6 0 4) + 1) ∧ ((σ6 0 4) + 1) ≤ 40 from by omega) ?_
                  refine And.intro (show 0 ≤ 1 ∧ 1 ≤ 1 from by omega) ?_
                  have hv : qVe x p = -1 := (cT_ev hT).2 (by omega)
                  have hd : qVd x (qnx x.1 x.2.1 p) = 0 := by have := (cT_de T2).1 (by omega); omega
                  have eL : (qLn x S.2.2 (S.2.1 1) (S.2.1 2) (σ 0 4) p) = (0, (qnx x.1 x.2.1 (qnx x.1 x.2.1 (qnx x.1 x.2.1 p)))) := (qLn_d hv c1 (by omega) hd (by decide)).trans (qD2_0 c4)
                  rw [eL] at hG
                  exact (hG rfl).2 e6 (vup σ6 0 4 ((σ6 0 4) + 1)) (cT_b T6 (by decide)) (cBf_up (by decide) F6) (show σ6 0 4 + 1 = σ 0 4 + 1 from by rw [N6]) (fun t t0 t1 j j1 => by
                    rcases (show t = 13 ∨ t = 14 ∨ t = 15 ∨ t = 16 by omega) with rfl | rfl | rfl | rfl
                    · exact (congrFun ((vup_fr (by decide)).trans r6_13) j).trans (ful_ne (by omega))
                    · exact (congrFun ((vup_fr (by decide)).trans r6_14) j).trans (ful_ne (by omega))
                    · exact (congrFun ((vup_fr (by decide)).trans r6_15) j).trans (ful_ne (by omega))
                    · exact congrFun ((vup_fr (by decide)).trans r6_16) j) (cRow_of ((congrFun ((vup_fr (by decide)).trans r6_13) (σ 0 4)).trans ful_at) ((congrFun ((vup_fr (by decide)).trans r6_14) (σ 0 4)).trans ful_at) ((congrFun ((vup_fr (by decide)).trans r6_15) (σ 0 4)).trans ful_at) rfl (Or.inl ⟨by omega, ⟨by omega, by omega⟩, by omega, by omega⟩))
              · refine And.intro (show 0 ≤ 0 ∧ 0 ≤ 1 from by omega) ?_
                refine And.intro (show 0 ≤ 0 ∧ 0 ≤ 1 from by omega) ?_
                refine And.intro (fun _ => ?_) (fun (q : ¬ 0 = 0) => absurd q (by decide))
                refine And.intro (show 0 ≤ 0 ∧ 0 ≤ 1 from by omega) ?_
                exfalso; omega
          · have hk3 : ¬ qkd x.1 x.2.1 x.2.2 (qnx x.1 x.2.1 p) = 0 ∧ ¬ qkd x.1 x.2.1 x.2.2 (qnx x.1 x.2.1 p) = 4 := by first | omega | exact (cT_nks T2).1 (by omega)
            refine And.intro (cT_nx ⟨(cT_b (cT_b T2 (by decide)) (by decide)), hk3⟩) (fun s3 (σ3 : vS) ha3 f3 t3_ => ?_)
            have T3 : cT x (qnx x.1 x.2.1 (qnx x.1 x.2.1 p)) σ3 := cT_next (cT_b (cT_b T2 (by decide)) (by decide)) hk3 ha3 f3 t3_
            clear ha3
            have F3 : cBf σ σ3 := cBf_cg (cBf_up (by decide) (cBf_up (by decide) F2)) (cg_of f3)
            have N3 : σ3 0 4 = σ 0 4 := (congrFun ((cg_of f3).1 0 (by decide)) 4).trans ((congrFun (vup_fr (by decide)) 4).trans ((congrFun (vup_fr (by decide)) 4).trans N2))
            have r3_13 : σ3 13 = ful (σ 13) (σ 0 4) r56 := ((cg_of f3).1 13 (by decide)).trans (vup_f.trans (ful_cg ((vup_fr (by decide)).trans r2_13) N2))
            have r3_14 : σ3 14 = ful (σ 14) (σ 0 4) ((qlf x S.2.2 6 (S.2.1 1) p)) := ((cg_of f3).1 14 (by decide)).trans ((vup_fr (by decide)).trans (vup_f.trans (ful_cg r2_14 N2)))
            have r3_15 : σ3 15 = σ 15 := ((cg_of f3).1 15 (by decide)).trans ((vup_fr (by decide)).trans ((vup_fr (by decide)).trans r2_15))
            have r3_16 : σ3 16 = σ 16 := ((cg_of f3).1 16 (by decide)).trans ((vup_fr (by decide)).trans ((vup_fr (by decide)).trans r2_16))
            refine ⟨by omega, x, ((qnx x.1 x.2.1 (qnx x.1 x.2.1 p)), S.2), S.2.1 2, T3, (cSn_b hS F3).1, hS.2, fun q => absurd q (by decide), fun q => absurd q (by decide), fun _ => ⟨rfl, fun c4 (σ4 : vS) fl4 g4 => ?_, fun c4 => ?_⟩⟩
            · have c4 : (qlf x S.2.2 12 (S.2.1 2) (qnx x.1 x.2.1 (qnx x.1 x.2.1 p))) < 0 := c4
              have fl4 : cFl x (-(qlf x S.2.2 12 (S.2.1 2) (qnx x.1 x.2.1 (qnx x.1 x.2.1 p)))) (qnx x.1 x.2.1 (qnx x.1 x.2.1 p)) σ4 := fl4
              have F4 : cBf σ σ4 := cBf_cg F3 g4
              have N4 : σ4 0 4 = σ 0 4 := (congrFun (g4.1 0 (by decide)) 4).trans N3
              have r4_13 : σ4 13 = ful (σ 13) (σ 0 4) r56 := (g4.1 13 (by decide)).trans r3_13
              have r4_14 : σ4 14 = ful (σ 14) (σ 0 4) ((qlf x S.2.2 6 (S.2.1 1) p)) := (g4.1 14 (by decide)).trans r3_14
              have r4_15 : σ4 15 = σ 15 := (g4.1 15 (by decide)).trans r3_15
              have r4_16 : σ4 16 = σ 16 := (g4.1 16 (by decide)).trans r3_16
              refine And.intro (fun _ => ?_) (fun (q : ¬ (-1) = (-1)) => absurd q (by decide))
              refine And.intro (show 0 ≤ 0 ∧ 0 ≤ 1 from by omega) ?_
              refine And.intro (fun _ => ?_) (fun (q : ¬ 0 = 0) => absurd q (by decide))
              refine And.intro (show 0 ≤ 0 ∧ 0 ≤ 1 from by omega) ?_
              refine And.intro (fun _ => ?_) (fun (q : ¬ 0 = 0) => absurd q (by decide))
              refine And.intro (show 0 ≤ 0 ∧ 0 ≤ 1 from by omega) ?_
              have hv : qVe x p = -1 := (cT_ev hT).2 (by omega)
              have hd : qVd x (qnx x.1 x.2.1 p) = 1 := by have := (cT_de T2).1 (by omega); omega
              have hz := qlf_b (x := x) (nm := S.2.2) (p := (qnx x.1 x.2.1 (qnx x.1 x.2.1 p))) (S.2.1 2) 12 hH2.1
              have eL : (qLn x S.2.2 (S.2.1 1) (S.2.1 2) (σ 0 4) p) = (-(qlf x S.2.2 12 (S.2.1 2) (qnx x.1 x.2.1 (qnx x.1 x.2.1 p))), (qnx x.1 x.2.1 (qnx x.1 x.2.1 p))) := (qLn_d hv c1 (by omega) hd (by decide)).trans (qD2_rf (by decide) c4 hH2.1)
              rw [eL] at hF
              exact hF (fun q => hz.2.2 ⟨c4, q⟩) σ4 fl4 F4 N4 (fun t t0 t1 j j1 => by
                rcases (show t = 13 ∨ t = 14 ∨ t = 15 ∨ t = 16 by omega) with rfl | rfl | rfl | rfl
                · exact (congrFun r4_13 j).trans (ful_ne (by omega))
                · exact (congrFun r4_14 j).trans (ful_ne (by omega))
                · exact congrFun r4_15 j
                · exact congrFun r4_16 j)
            · have c4 : 0 ≤ (qlf x S.2.2 12 (S.2.1 2) (qnx x.1 x.2.1 (qnx x.1 x.2.1 p))) := c4
              have kq4 := qlf_k c4
              have bq4 := qlf_u (m := S.2.1 2) hH2.1 c4
              have eR4 : qlk x 12 (S.2.1 2) ((qnx x.1 x.2.1 (qnx x.1 x.2.1 p)), S.2) = (qlf x S.2.2 12 (S.2.1 2) (qnx x.1 x.2.1 (qnx x.1 x.2.1 p))) := rfl
              rw [eR4]
              refine And.intro (fun (q : ((qlf x S.2.2 12 (S.2.1 2) (qnx x.1 x.2.1 (qnx x.1 x.2.1 p)))) = (-1)) => (by exfalso; omega)) (fun _ => ?_)
              refine And.intro (fun (c69 : (σ3 0 4) < 40) => ?_) (fun (c70 : 40 ≤ (σ3 0 4)) => ?_)
              · refine And.intro (show 0 ≤ (σ3 0 4) ∧ (σ3 0 4) < 40 from by omega) ?_
                refine And.intro (show 0 ≤ ((qlf x S.2.2 12 (S.2.1 2) (qnx x.1 x.2.1 (qnx x.1 x.2.1 p)))) ∧ ((qlf x S.2.2 12 (S.2.1 2) (qnx x.1 x.2.1 (qnx x.1 x.2.1 p)))) ≤ 60 from by omega) ?_
                have hk5 : ¬ qkd x.1 x.2.1 x.2.2 (qnx x.1 x.2.1 (qnx x.1 x.2.1 p)) = 0 ∧ ¬ qkd x.1 x.2.1 x.2.2 (qnx x.1 x.2.1 (qnx x.1 x.2.1 p)) = 4 := by first | omega | exact (cT_nks T3).1 (by omega)
                refine And.intro (cT_nx ⟨(cT_b T3 (by decide)), hk5⟩) (fun s5 (σ5 : vS) ha5 f5 t5_ => ?_)
                have T5 : cT x (qnx x.1 x.2.1 (qnx x.1 x.2.1 (qnx x.1 x.2.1 p))) σ5 := cT_next (cT_b T3 (by decide)) hk5 ha5 f5 t5_
                clear ha5
                have F5 : cBf σ σ5 := cBf_cg (cBf_up (by decide) F3) (cg_of f5)
                have N5 : σ5 0 4 = σ 0 4 := (congrFun ((cg_of f5).1 0 (by decide)) 4).trans ((congrFun (vup_fr (by decide)) 4).trans N3)
                have r5_13 : σ5 13 = ful (σ 13) (σ 0 4) r56 := ((cg_of f5).1 13 (by decide)).trans ((vup_fr (by decide)).trans r3_13)
                have r5_14 : σ5 14 = ful (σ 14) (σ 0 4) ((qlf x S.2.2 6 (S.2.1 1) p)) := ((cg_of f5).1 14 (by decide)).trans ((vup_fr (by decide)).trans r3_14)
                have r5_15 : σ5 15 = ful (σ 15) (σ 0 4) ((qlf x S.2.2 12 (S.2.1 2) (qnx x.1 x.2.1 (qnx x.1 x.2.1 p)))) := ((cg_of f5).1 15 (by decide)).trans (vup_f.trans (ful_cg r3_15 N3))
                have r5_16 : σ5 16 = σ 16 := ((cg_of f5).1 16 (by decide)).trans ((vup_fr (by decide)).trans r3_16)
                refine And.intro (show 0 ≤ 1 ∧ 1 ≤ 1 from by omega) ?_
                refine And.intro (fun (q : 1 = 0) => absurd q (by decide)) (fun _ => ?_)
                refine ⟨by omega, x, ((qnx x.1 x.2.1 (qnx x.1 x.2.1 (qnx x.1 x.2.1 p))), S.2), S.2.1 1, T5, (cSn_b hS F5).1, hS.2, fun q => absurd q (by decide), fun _ => ⟨rfl, fun c6 (σ6 : vS) fl6 g6 => ?_, fun c6 => ?_⟩, fun q => absurd q (by decide)⟩
                · have c6 : (qlf x S.2.2 6 (S.2.1 1) (qnx x.1 x.2.1 (qnx x.1 x.2.1 (qnx x.1 x.2.1 p)))) < 0 := c6
                  have fl6 : cFl x (-(qlf x S.2.2 6 (S.2.1 1) (qnx x.1 x.2.1 (qnx x.1 x.2.1 (qnx x.1 x.2.1 p))))) (qnx x.1 x.2.1 (qnx x.1 x.2.1 (qnx x.1 x.2.1 p))) σ6 := fl6
                  have F6 : cBf σ σ6 := cBf_cg F5 g6
                  have N6 : σ6 0 4 = σ 0 4 := (congrFun (g6.1 0 (by decide)) 4).trans N5
                  have r6_13 : σ6 13 = ful (σ 13) (σ 0 4) r56 := (g6.1 13 (by decide)).trans r5_13
                  have r6_14 : σ6 14 = ful (σ 14) (σ 0 4) ((qlf x S.2.2 6 (S.2.1 1) p)) := (g6.1 14 (by decide)).trans r5_14
                  have r6_15 : σ6 15 = ful (σ 15) (σ 0 4) ((qlf x S.2.2 12 (S.2.1 2) (qnx x.1 x.2.1 (qnx x.1 x.2.1 p)))) := (g6.1 15 (by decide)).trans r5_15
                  have r6_16 : σ6 16 = σ 16 := (g6.1 16 (by decide)).trans r5_16
                  refine And.intro (fun _ => ?_) (fun (q : ¬ (-1) = (-1)) => absurd q (by decide))
                  refine And.intro (show 0 ≤ 0 ∧ 0 ≤ 1 from by omega) ?_
                  refine And.intro (fun _ => ?_) (fun (q : ¬ 0 = 0) => absurd q (by decide))
                  refine And.intro (show 0 ≤ 0 ∧ 0 ≤ 1 from by omega) ?_
                  refine And.intro (fun _ => ?_) (fun (q : ¬ 0 = 0) => absurd q (by decide))
                  refine And.intro (show 0 ≤ 0 ∧ 0 ≤ 1 from by omega) ?_
                  have hv : qVe x p = -1 := (cT_ev hT).2 (by omega)
                  have hd : qVd x (qnx x.1 x.2.1 p) = 1 := by have := (cT_de T2).1 (by omega); omega
                  have hz := qlf_b (x := x) (nm := S.2.2) (p := (qnx x.1 x.2.1 (qnx x.1 x.2.1 (qnx x.1 x.2.1 p)))) (S.2.1 1) 6 hH1.1
                  have eL : (qLn x S.2.2 (S.2.1 1) (S.2.1 2) (σ 0 4) p) = (-(qlf x S.2.2 6 (S.2.1 1) (qnx x.1 x.2.1 (qnx x.1 x.2.1 (qnx x.1 x.2.1 p)))), (qnx x.1 x.2.1 (qnx x.1 x.2.1 (qnx x.1 x.2.1 p)))) := (qLn_d hv c1 (by omega) hd (by decide)).trans ((qD2_1 c4).trans (qOw_f c6))
                  rw [eL] at hF
                  exact hF (fun q => hz.2.2 ⟨c6, q⟩) σ6 fl6 F6 N6 (fun t t0 t1 j j1 => by
                    rcases (show t = 13 ∨ t = 14 ∨ t = 15 ∨ t = 16 by omega) with rfl | rfl | rfl | rfl
                    · exact (congrFun r6_13 j).trans (ful_ne (by omega))
                    · exact (congrFun r6_14 j).trans (ful_ne (by omega))
                    · exact (congrFun r6_15 j).trans (ful_ne (by omega))
                    · exact congrFun r6_16 j)
                · have c6 : 0 ≤ (qlf x S.2.2 6 (S.2.1 1) (qnx x.1 x.2.1 (qnx x.1 x.2.1 (qnx x.1 x.2.1 p)))) := c6
                  have kq6 := qlf_k c6
                  have bq6 := qlf_u (m := S.2.1 1) hH1.1 c6
                  have eR6 : qlk x 6 (S.2.1 1) ((qnx x.1 x.2.1 (qnx x.1 x.2.1 (qnx x.1 x.2.1 p))), S.2) = (qlf x S.2.2 6 (S.2.1 1) (qnx x.1 x.2.1 (qnx x.1 x.2.1 (qnx x.1 x.2.1 p)))) := rfl
                  rw [eR6]
                  refine And.intro (fun (q : ((qlf x S.2.2 6 (S.2.1 1) (qnx x.1 x.2.1 (qnx x.1 x.2.1 (qnx x.1 x.2.1 p))))) = (-1)) => (by exfalso; omega)) (fun _ => ?_)
                  refine And.intro (fun (c71 : (σ5 0 4) < 40) => ?_) (fun (c72 : 40 ≤ (σ5 0 4)) => ?_)
                  · refine And.intro (show 0 ≤ (σ5 0 4) ∧ (σ5 0 4) < 40 from by omega) ?_
                    refine And.intro (show 0 ≤ ((qlf x S.2.2 6 (S.2.1 1) (qnx x.1 x.2.1 (qnx x.1 x.2.1 (qnx x.1 x.2.1 p))))) ∧ ((qlf x S.2.2 6 (S.2.1 1) (qnx x.1 x.2.1 (qnx x.1 x.2.1 (qnx x.1 x.2.1 p))))) ≤ 5 from by omega) ?_
                    have hk7 : ¬ qkd x.1 x.2.1 x.2.2 (qnx x.1 x.2.1 (qnx x.1 x.2.1 (qnx x.1 x.2.1 p))) = 0 ∧ ¬ qkd x.1 x.2.1 x.2.2 (qnx x.1 x.2.1 (qnx x.1 x.2.1 (qnx x.1 x.2.1 p))) = 4 := by first | omega | exact (cT_nks T5).1 (by omega)
                    refine And.intro (cT_nx ⟨(cT_b T5 (by decide)), hk7⟩) (fun s7 (σ7 : vS) ha7 f7 t7_ => ?_)
                    have T7 : cT x (qnx x.1 x.2.1 (qnx x.1 x.2.1 (qnx x.1 x.2.1 (qnx x.1 x.2.1 p)))) σ7 := cT_next (cT_b T5 (by decide)) hk7 ha7 f7 t7_
                    clear ha7
                    have F7 : cBf σ σ7 := cBf_cg (cBf_up (by decide) F5) (cg_of f7)
                    have N7 : σ7 0 4 = σ 0 4 := (congrFun ((cg_of f7).1 0 (by decide)) 4).trans ((congrFun (vup_fr (by decide)) 4).trans N5)
                    have r7_13 : σ7 13 = ful (σ 13) (σ 0 4) r56 := ((cg_of f7).1 13 (by decide)).trans ((vup_fr (by decide)).trans r5_13)
                    have r7_14 : σ7 14 = ful (σ 14) (σ 0 4) ((qlf x S.2.2 6 (S.2.1 1) p)) := ((cg_of f7).1 14 (by decide)).trans ((vup_fr (by decide)).trans r5_14)
                    have r7_15 : σ7 15 = ful (σ 15) (σ 0 4) ((qlf x S.2.2 12 (S.2.1 2) (qnx x.1 x.2.1 (qnx x.1 x.2.1 p)))) := ((cg_of f7).1 15 (by decide)).trans ((vup_fr (by decide)).trans r5_15)
                    have r7_16 : σ7 16 = ful (σ 16) (σ 0 4) ((qlf x S.2.2 6 (S.2.1 1) (qnx x.1 x.2.1 (qnx x.1 x.2.1 (qnx x.1 x.2.1 p))))) := ((cg_of f7).1 16 (by decide)).trans (vup_f.trans (ful_cg r5_16 N5))
                    refine And.intro (show 0 ≤ 1 ∧ 1 ≤ 1 from by omega) ?_
                    refine And.intro (fun (q : 1 = 0) => absurd q (by decide)) (fun _ => ?_)
                    refine And.intro (show 0 ≤ 1 ∧ 1 ≤ 1 from by omega) ?_
                    refine And.intro (fun (q : 1 = 0) => absurd q (by decide)) (fun _ => ?_)
                    refine ⟨x, (qnx x.1 x.2.1 (qnx x.1 x.2.1 (qnx x.1 x.2.1 (qnx x.1 x.2.1 p)))), T7, fun e8 (σ8 : vS) fl8 g8 => ?_, fun e8 (σ8 : vS) T8 g8 => ?_⟩
                    · have F8 : cBf σ σ8 := cBf_cg F7 g8
                      have N8 : σ8 0 4 = σ 0 4 := (congrFun (g8.1 0 (by decide)) 4).trans N7
                      have r8_13 : σ8 13 = ful (σ 13) (σ 0 4) r56 := (g8.1 13 (by decide)).trans r7_13
                      have r8_14 : σ8 14 = ful (σ 14) (σ 0 4) ((qlf x S.2.2 6 (S.2.1 1) p)) := (g8.1 14 (by decide)).trans r7_14
                      have r8_15 : σ8 15 = ful (σ 15) (σ 0 4) ((qlf x S.2.2 12 (S.2.1 2) (qnx x.1 x.2.1 (qnx x.1 x.2.1 p)))) := (g8.1 15 (by decide)).trans r7_15
                      have r8_16 : σ8 16 = ful (σ 16) (σ 0 4) ((qlf x S.2.2 6 (S.2.1 1) (qnx x.1 x.2.1 (qnx x.1 x.2.1 (qnx x.1 x.2.1 p))))) := (g8.1 16 (by decide)).trans r7_16
                      refine And.intro (fun (q : ¬ 0 = 0) => absurd q (by decide)) (fun _ => ?_)
                      refine And.intro (show 0 ≤ 0 ∧ 0 ≤ 1 from by omega) ?_
                      have hv : qVe x p = -1 := (cT_ev hT).2 (by omega)
                      have hd : qVd x (qnx x.1 x.2.1 p) = 1 := by have := (cT_de T2).1 (by omega); omega
                      have eL : (qLn x S.2.2 (S.2.1 1) (S.2.1 2) (σ 0 4) p) = (0, (qnx x.1 x.2.1 (qnx x.1 x.2.1 (qnx x.1 x.2.1 (qnx x.1 x.2.1 p))))) := (qLn_d hv c1 (by omega) hd (by decide)).trans ((qD2_1 c4).trans (qOw_s c6))
                      rw [eL] at hG
                      exact (hG rfl).1 e8 σ8 fl8 F8 N8 (fun t t0 t1 j j1 => by
                        rcases (show t = 13 ∨ t = 14 ∨ t = 15 ∨ t = 16 by omega) with rfl | rfl | rfl | rfl
                        · exact (congrFun r8_13 j).trans (ful_ne (by omega))
                        · exact (congrFun r8_14 j).trans (ful_ne (by omega))
                        · exact (congrFun r8_15 j).trans (ful_ne (by omega))
                        · exact (congrFun r8_16 j).trans (ful_ne (by omega)))
                    · have F8 : cBf σ σ8 := cBf_cg F7 g8
                      have N8 : σ8 0 4 = σ 0 4 := (congrFun (g8.1 0 (by decide)) 4).trans N7
                      have r8_13 : σ8 13 = ful (σ 13) (σ 0 4) r56 := (g8.1 13 (by decide)).trans r7_13
                      have r8_14 : σ8 14 = ful (σ 14) (σ 0 4) ((qlf x S.2.2 6 (S.2.1 1) p)) := (g8.1 14 (by decide)).trans r7_14
                      have r8_15 : σ8 15 = ful (σ 15) (σ 0 4) ((qlf x S.2.2 12 (S.2.1 2) (qnx x.1 x.2.1 (qnx x.1 x.2.1 p)))) := (g8.1 15 (by decide)).trans r7_15
                      have r8_16 : σ8 16 = ful (σ 16) (σ 0 4) ((qlf x S.2.2 6 (S.2.1 1) (qnx x.1 x.2.1 (qnx x.1 x.2.1 (qnx x.1 x.2.1 p))))) := (g8.1 16 (by decide)).trans r7_16
                      refine And.intro (fun _ => ?_) (fun (q : 1 = 0) => absurd q (by decide))
                      refine And.intro (show -2147483648 ≤ ((σ8 0 4) + 1) ∧ ((σ8 0 4) + 1) ≤ 2147483647 from by omega) ?_
                      refine And.intro (show 0 ≤ ((σ8 0 4) + 1) ∧ ((σ8 0 4) + 1) ≤ 40 from by omega) ?_
                      refine And.intro (show 0 ≤ 1 ∧ 1 ≤ 1 from by omega) ?_
                      have hv : qVe x p = -1 := (cT_ev hT).2 (by omega)
                      have hd : qVd x (qnx x.1 x.2.1 p) = 1 := by have := (cT_de T2).1 (by omega); omega
                      have eL : (qLn x S.2.2 (S.2.1 1) (S.2.1 2) (σ 0 4) p) = (0, (qnx x.1 x.2.1 (qnx x.1 x.2.1 (qnx x.1 x.2.1 (qnx x.1 x.2.1 p))))) := (qLn_d hv c1 (by omega) hd (by decide)).trans ((qD2_1 c4).trans (qOw_s c6))
                      rw [eL] at hG
                      exact (hG rfl).2 e8 (vup σ8 0 4 ((σ8 0 4) + 1)) (cT_b T8 (by decide)) (cBf_up (by decide) F8) (show σ8 0 4 + 1 = σ 0 4 + 1 from by rw [N8]) (fun t t0 t1 j j1 => by
                        rcases (show t = 13 ∨ t = 14 ∨ t = 15 ∨ t = 16 by omega) with rfl | rfl | rfl | rfl
                        · exact (congrFun ((vup_fr (by decide)).trans r8_13) j).trans (ful_ne (by omega))
                        · exact (congrFun ((vup_fr (by decide)).trans r8_14) j).trans (ful_ne (by omega))
                        · exact (congrFun ((vup_fr (by decide)).trans r8_15) j).trans (ful_ne (by omega))
                        · exact (congrFun ((vup_fr (by decide)).trans r8_16) j).trans (ful_ne (by omega))) (cRow_of ((congrFun ((vup_fr (by decide)).trans r8_13) (σ 0 4)).trans ful_at) ((congrFun ((vup_fr (by decide)).trans r8_14) (σ 0 4)).trans ful_at) ((congrFun ((vup_fr (by decide)).trans r8_15) (σ 0 4)).trans ful_at) ((congrFun ((vup_fr (by decide)).trans r8_16) (σ 0 4)).trans ful_at) (Or.inr (Or.inl ⟨by omega, ⟨by omega, by omega⟩, ⟨by omega, by omega⟩, by omega, by omega⟩)))
                  · refine And.intro (show 0 ≤ 0 ∧ 0 ≤ 1 from by omega) ?_
                    refine And.intro (fun _ => ?_) (fun (q : ¬ 0 = 0) => absurd q (by decide))
                    refine And.intro (show 0 ≤ 0 ∧ 0 ≤ 1 from by omega) ?_
                    refine And.intro (fun _ => ?_) (fun (q : ¬ 0 = 0) => absurd q (by decide))
                    refine And.intro (show 0 ≤ 0 ∧ 0 ≤ 1 from by omega) ?_
                    exfalso; omega
              · refine And.intro (show 0 ≤ 0 ∧ 0 ≤ 1 from by omega) ?_
                refine And.intro (fun _ => ?_) (fun (q : ¬ 0 = 0) => absurd q (by decide))
                refine And.intro (show 0 ≤ 0 ∧ 0 ≤ 1 from by omega) ?_
                refine And.intro (fun _ => ?_) (fun (q : ¬ 0 = 0) => absurd q (by decide))
                refine And.intro (show 0 ≤ 0 ∧ 0 ≤ 1 from by omega) ?_
                exfalso; omega
          · have hk3 : ¬ qkd x.1 x.2.1 x.2.2 (qnx x.1 x.2.1 p) = 0 ∧ ¬ qkd x.1 x.2.1 x.2.2 (qnx x.1 x.2.1 p) = 4 := by first | omega | exact (cT_nks T2).1 (by omega)
            refine And.intro (cT_nx ⟨(cT_b (cT_b T2 (by decide)) (by decide)), hk3⟩) (fun s3 (σ3 : vS) ha3 f3 t3_ => ?_)
            have T3 : cT x (qnx x.1 x.2.1 (qnx x.1 x.2.1 p)) σ3 := cT_next (cT_b (cT_b T2 (by decide)) (by decide)) hk3 ha3 f3 t3_
            clear ha3
            have F3 : cBf σ σ3 := cBf_cg (cBf_up (by decide) (cBf_up (by decide) F2)) (cg_of f3)
            have N3 : σ3 0 4 = σ 0 4 := (congrFun ((cg_of f3).1 0 (by decide)) 4).trans ((congrFun (vup_fr (by decide)) 4).trans ((congrFun (vup_fr (by decide)) 4).trans N2))
            have r3_13 : σ3 13 = ful (σ 13) (σ 0 4) r56 := ((cg_of f3).1 13 (by decide)).trans (vup_f.trans (ful_cg ((vup_fr (by decide)).trans r2_13) N2))
            have r3_14 : σ3 14 = ful (σ 14) (σ 0 4) ((qlf x S.2.2 6 (S.2.1 1) p)) := ((cg_of f3).1 14 (by decide)).trans ((vup_fr (by decide)).trans (vup_f.trans (ful_cg r2_14 N2)))
            have r3_15 : σ3 15 = σ 15 := ((cg_of f3).1 15 (by decide)).trans ((vup_fr (by decide)).trans ((vup_fr (by decide)).trans r2_15))
            have r3_16 : σ3 16 = σ 16 := ((cg_of f3).1 16 (by decide)).trans ((vup_fr (by decide)).trans ((vup_fr (by decide)).trans r2_16))
            refine ⟨by omega, x, ((qnx x.1 x.2.1 (qnx x.1 x.2.1 p)), S.2), S.2.1 1, T3, (cSn_b hS F3).1, hS.2, fun q => absurd q (by decide), fun _ => ⟨rfl, fun c4 (σ4 : vS) fl4 g4 => ?_, fun c4 => ?_⟩, fun q => absurd q (by decide)⟩
            · have c4 : (qlf x S.2.2 6 (S.2.1 1) (qnx x.1 x.2.1 (qnx x.1 x.2.1 p))) < 0 := c4
              have fl4 : cFl x (-(qlf x S.2.2 6 (S.2.1 1) (qnx x.1 x.2.1 (qnx x.1 x.2.1 p)))) (qnx x.1 x.2.1 (qnx x.1 x.2.1 p)) σ4 := fl4
              have F4 : cBf σ σ4 := cBf_cg F3 g4
              have N4 : σ4 0 4 = σ 0 4 := (congrFun (g4.1 0 (by decide)) 4).trans N3
              have r4_13 : σ4 13 = ful (σ 13) (σ 0 4) r56 := (g4.1 13 (by decide)).trans r3_13
              have r4_14 : σ4 14 = ful (σ 14) (σ 0 4) ((qlf x S.2.2 6 (S.2.1 1) p)) := (g4.1 14 (by decide)).trans r3_14
              have r4_15 : σ4 15 = σ 15 := (g4.1 15 (by decide)).trans r3_15
              have r4_16 : σ4 16 = σ 16 := (g4.1 16 (by decide)).trans r3_16
              refine And.intro (fun _ => ?_) (fun (q : ¬ (-1) = (-1)) => absurd q (by decide))
              refine And.intro (show 0 ≤ 0 ∧ 0 ≤ 1 from by omega) ?_
              refine And.intro (show 0 ≤ 0 ∧ 0 ≤ 1 from by omega) ?_
              refine And.intro (fun _ => ?_) (fun (q : ¬ 0 = 0) => absurd q (by decide))
              refine And.intro (show 0 ≤ 0 ∧ 0 ≤ 1 from by omega) ?_
              have hv : qVe x p = -1 := (cT_ev hT).2 (by omega)
              have hd : qVd x (qnx x.1 x.2.1 p) = 2 := by have := (cT_de T2).1 (by omega); omega
              have hz := qlf_b (x := x) (nm := S.2.2) (p := (qnx x.1 x.2.1 (qnx x.1 x.2.1 p))) (S.2.1 1) 6 hH1.1
              have eL : (qLn x S.2.2 (S.2.1 1) (S.2.1 2) (σ 0 4) p) = (-(qlf x S.2.2 6 (S.2.1 1) (qnx x.1 x.2.1 (qnx x.1 x.2.1 p))), (qnx x.1 x.2.1 (qnx x.1 x.2.1 p))) := (qLn_d hv c1 (by omega) hd (by decide)).trans ((qD2_o (by decide)).trans (qOw_f c4))
              rw [eL] at hF
              exact hF (fun q => hz.2.2 ⟨c4, q⟩) σ4 fl4 F4 N4 (fun t t0 t1 j j1 => by
                rcases (show t = 13 ∨ t = 14 ∨ t = 15 ∨ t = 16 by omega) with rfl | rfl | rfl | rfl
                · exact (congrFun r4_13 j).trans (ful_ne (by omega))
                · exact (congrFun r4_14 j).trans (ful_ne (by omega))
                · exact congrFun r4_15 j
                · exact congrFun r4_16 j)
            · have c4 : 0 ≤ (qlf x S.2.2 6 (S.2.1 1) (qnx x.1 x.2.1 (qnx x.1 x.2.1 p))) := c4
              have kq4 := qlf_k c4
              have bq4 := qlf_u (m := S.2.1 1) hH1.1 c4
              have eR4 : qlk x 6 (S.2.1 1) ((qnx x.1 x.2.1 (qnx x.1 x.2.1 p)), S.2) = (qlf x S.2.2 6 (S.2.1 1) (qnx x.1 x.2.1 (qnx x.1 x.2.1 p))) := rfl
              rw [eR4]
              refine And.intro (fun (q : ((qlf x S.2.2 6 (S.2.1 1) (qnx x.1 x.2.1 (qnx x.1 x.2.1 p)))) = (-1)) => (by exfalso; omega)) (fun _ => ?_)
              refine And.intro (fun (c73 : (σ3 0 4) < 40) => ?_) (fun (c74 : 40 ≤ (σ3 0 4)) => ?_)
              · refine And.intro (show 0 ≤ (σ3 0 4) ∧ (σ3 0 4) < 40 from by omega) ?_
                refine And.intro (show 0 ≤ ((qlf x S.2.2 6 (S.2.1 1) (qnx x.1 x.2.1 (qnx x.1 x.2.1 p)))) ∧ ((qlf x S.2.2 6 (S.2.1 1) (qnx x.1 x.2.1 (qnx x.1 x.2.1 p)))) ≤ 60 from by omega) ?_
                have hk5 : ¬ qkd x.1 x.2.1 x.2.2 (qnx x.1 x.2.1 (qnx x.1 x.2.1 p)) = 0 ∧ ¬ qkd x.1 x.2.1 x.2.2 (qnx x.1 x.2.1 (qnx x.1 x.2.1 p)) = 4 := by first | omega | exact (cT_nks T3).1 (by omega)
                refine And.intro (cT_nx ⟨(cT_b T3 (by decide)), hk5⟩) (fun s5 (σ5 : vS) ha5 f5 t5_ => ?_)
                have T5 : cT x (qnx x.1 x.2.1 (qnx x.1 x.2.1 (qnx x.1 x.2.1 p))) σ5 := cT_next (cT_b T3 (by decide)) hk5 ha5 f5 t5_
                clear ha5
                have F5 : cBf σ σ5 := cBf_cg (cBf_up (by decide) F3) (cg_of f5)
                have N5 : σ5 0 4 = σ 0 4 := (congrFun ((cg_of f5).1 0 (by decide)) 4).trans ((congrFun (vup_fr (by decide)) 4).trans N3)
                have r5_13 : σ5 13 = ful (σ 13) (σ 0 4) r56 := ((cg_of f5).1 13 (by decide)).trans ((vup_fr (by decide)).trans r3_13)
                have r5_14 : σ5 14 = ful (σ 14) (σ 0 4) ((qlf x S.2.2 6 (S.2.1 1) p)) := ((cg_of f5).1 14 (by decide)).trans ((vup_fr (by decide)).trans r3_14)
                have r5_15 : σ5 15 = ful (σ 15) (σ 0 4) ((qlf x S.2.2 6 (S.2.1 1) (qnx x.1 x.2.1 (qnx x.1 x.2.1 p)))) := ((cg_of f5).1 15 (by decide)).trans (vup_f.trans (ful_cg r3_15 N3))
                have r5_16 : σ5 16 = σ 16 := ((cg_of f5).1 16 (by decide)).trans ((vup_fr (by decide)).trans r3_16)
                refine And.intro (show 0 ≤ 1 ∧ 1 ≤ 1 from by omega) ?_
                refine And.intro (show 0 ≤ 1 ∧ 1 ≤ 1 from by omega) ?_
                refine And.intro (fun (q : 1 = 0) => absurd q (by decide)) (fun _ => ?_)
                refine ⟨x, (qnx x.1 x.2.1 (qnx x.1 x.2.1 (qnx x.1 x.2.1 p))), T5, fun e6 (σ6 : vS) fl6 g6 => ?_, fun e6 (σ6 : vS) T6 g6 => ?_⟩
                · have F6 : cBf σ σ6 := cBf_cg F5 g6
                  have N6 : σ6 0 4 = σ 0 4 := (congrFun (g6.1 0 (by decide)) 4).trans N5
                  have r6_13 : σ6 13 = ful (σ 13) (σ 0 4) r56 := (g6.1 13 (by decide)).trans r5_13
                  have r6_14 : σ6 14 = ful (σ 14) (σ 0 4) ((qlf x S.2.2 6 (S.2.1 1) p)) := (g6.1 14 (by decide)).trans r5_14
                  have r6_15 : σ6 15 = ful (σ 15) (σ 0 4) ((qlf x S.2.2 6 (S.2.1 1) (qnx x.1 x.2.1 (qnx x.1 x.2.1 p)))) := (g6.1 15 (by decide)).trans r5_15
                  have r6_16 : σ6 16 = σ 16 := (g6.1 16 (by decide)).trans r5_16
                  refine And.intro (fun (q : ¬ 0 = 0) => absurd q (by decide)) (fun _ => ?_)
                  refine And.intro (show 0 ≤ 0 ∧ 0 ≤ 1 from by omega) ?_
                  have hv : qVe x p = -1 := (cT_ev hT).2 (by omega)
                  have hd : qVd x (qnx x.1 x.2.1 p) = 2 := by have := (cT_de T2).1 (by omega); omega
                  have eL : (qLn x S.2.2 (S.2.1 1) (S.2.1 2) (σ 0 4) p) = (0, (qnx x.1 x.2.1 (qnx x.1 x.2.1 (qnx x.1 x.2.1 p)))) := (qLn_d hv c1 (by omega) hd (by decide)).trans ((qD2_o (by decide)).trans (qOw_s c4))
                  rw [eL] at hG
                  exact (hG rfl).1 e6 σ6 fl6 F6 N6 (fun t t0 t1 j j1 => by
                    rcases (show t = 13 ∨ t = 14 ∨ t = 15 ∨ t = 16 by omega) with rfl | rfl | rfl | rfl
                    · exact (congrFun r6_13 j).trans (ful_ne (by omega))
                    · exact (congrFun r6_14 j).trans (ful_ne (by omega))
                    · exact (congrFun r6_15 j).trans (ful_ne (by omega))
                    · exact congrFun r6_16 j)
                · have F6 : cBf σ σ6 := cBf_cg F5 g6
                  have N6 : σ6 0 4 = σ 0 4 := (congrFun (g6.1 0 (by decide)) 4).trans N5
                  have r6_13 : σ6 13 = ful (σ 13) (σ 0 4) r56 := (g6.1 13 (by decide)).trans r5_13
                  have r6_14 : σ6 14 = ful (σ 14) (σ 0 4) ((qlf x S.2.2 6 (S.2.1 1) p)) := (g6.1 14 (by decide)).trans r5_14
                  have r6_15 : σ6 15 = ful (σ 15) (σ 0 4) ((qlf x S.2.2 6 (S.2.1 1) (qnx x.1 x.2.1 (qnx x.1 x.2.1 p)))) := (g6.1 15 (by decide)).trans r5_15
                  have r6_16 : σ6 16 = σ 16 := (g6.1 16 (by decide)).trans r5_16
                  refine And.intro (fun _ => ?_) (fun (q : 1 = 0) => absurd q (by decide))
                  refine And.intro (show -2147483648 ≤ ((σ6 0 4) + 1) ∧ ((σ6 0 4) + 1) ≤ 2147483647 from by omega) ?_
                  refine And.intro (show 0 ≤ ((σ6 0 4) + 1) ∧ ((σ6 0 4) + 1) ≤ 40 from by omega) ?_
                  refine And.intro (show 0 ≤ 1 ∧ 1 ≤ 1 from by omega) ?_
                  have hv : qVe x p = -1 := (cT_ev hT).2 (by omega)
                  have hd : qVd x (qnx x.1 x.2.1 p) = 2 := by have := (cT_de T2).1 (by omega); omega
                  have eL : (qLn x S.2.2 (S.2.1 1) (S.2.1 2) (σ 0 4) p) = (0, (qnx x.1 x.2.1 (qnx x.1 x.2.1 (qnx x.1 x.2.1 p)))) := (qLn_d hv c1 (by omega) hd (by decide)).trans ((qD2_o (by decide)).trans (qOw_s c4))
                  rw [eL] at hG
                  exact (hG rfl).2 e6 (vup σ6 0 4 ((σ6 0 4) + 1)) (cT_b T6 (by decide)) (cBf_up (by decide) F6) (show σ6 0 4 + 1 = σ 0 4 + 1 from by rw [N6]) (fun t t0 t1 j j1 => by
                    rcases (show t = 13 ∨ t = 14 ∨ t = 15 ∨ t = 16 by omega) with rfl | rfl | rfl | rfl
                    · exact (congrFun ((vup_fr (by decide)).trans r6_13) j).trans (ful_ne (by omega))
                    · exact (congrFun ((vup_fr (by decide)).trans r6_14) j).trans (ful_ne (by omega))
                    · exact (congrFun ((vup_fr (by decide)).trans r6_15) j).trans (ful_ne (by omega))
                    · exact congrFun ((vup_fr (by decide)).trans r6_16) j) (cRow_of ((congrFun ((vup_fr (by decide)).trans r6_13) (σ 0 4)).trans ful_at) ((congrFun ((vup_fr (by decide)).trans r6_14) (σ 0 4)).trans ful_at) ((congrFun ((vup_fr (by decide)).trans r6_15) (σ 0 4)).trans ful_at) rfl (Or.inr (Or.inr (Or.inl ⟨⟨by omega, by omega⟩, ⟨by omega, by omega⟩, by omega, by omega⟩))))
              · refine And.intro (show 0 ≤ 0 ∧ 0 ≤ 1 from by omega) ?_
                refine And.intro (show 0 ≤ 0 ∧ 0 ≤ 1 from by omega) ?_
                refine And.intro (fun _ => ?_) (fun (q : ¬ 0 = 0) => absurd q (by decide))
                refine And.intro (show 0 ≤ 0 ∧ 0 ≤ 1 from by omega) ?_
                exfalso; omega
          · have hk3 : ¬ qkd x.1 x.2.1 x.2.2 (qnx x.1 x.2.1 p) = 0 ∧ ¬ qkd x.1 x.2.1 x.2.2 (qnx x.1 x.2.1 p) = 4 := by first | omega | exact (cT_nks T2).1 (by omega)
            refine And.intro (cT_nx ⟨(cT_b (cT_b T2 (by decide)) (by decide)), hk3⟩) (fun s3 (σ3 : vS) ha3 f3 t3_ => ?_)
            have T3 : cT x (qnx x.1 x.2.1 (qnx x.1 x.2.1 p)) σ3 := cT_next (cT_b (cT_b T2 (by decide)) (by decide)) hk3 ha3 f3 t3_
            clear ha3
            have F3 : cBf σ σ3 := cBf_cg (cBf_up (by decide) (cBf_up (by decide) F2)) (cg_of f3)
            have N3 : σ3 0 4 = σ 0 4 := (congrFun ((cg_of f3).1 0 (by decide)) 4).trans ((congrFun (vup_fr (by decide)) 4).trans ((congrFun (vup_fr (by decide)) 4).trans N2))
            have r3_13 : σ3 13 = ful (σ 13) (σ 0 4) r56 := ((cg_of f3).1 13 (by decide)).trans (vup_f.trans (ful_cg ((vup_fr (by decide)).trans r2_13) N2))
            have r3_14 : σ3 14 = ful (σ 14) (σ 0 4) ((qlf x S.2.2 6 (S.2.1 1) p)) := ((cg_of f3).1 14 (by decide)).trans ((vup_fr (by decide)).trans (vup_f.trans (ful_cg r2_14 N2)))
            have r3_15 : σ3 15 = σ 15 := ((cg_of f3).1 15 (by decide)).trans ((vup_fr (by decide)).trans ((vup_fr (by decide)).trans r2_15))
            have r3_16 : σ3 16 = σ 16 := ((cg_of f3).1 16 (by decide)).trans ((vup_fr (by decide)).trans ((vup_fr (by decide)).trans r2_16))
            refine ⟨by omega, x, ((qnx x.1 x.2.1 (qnx x.1 x.2.1 p)), S.2), S.2.1 1, T3, (cSn_b hS F3).1, hS.2, fun q => absurd q (by decide), fun _ => ⟨rfl, fun c4 (σ4 : vS) fl4 g4 => ?_, fun c4 => ?_⟩, fun q => absurd q (by decide)⟩
            · have c4 : (qlf x S.2.2 6 (S.2.1 1) (qnx x.1 x.2.1 (qnx x.1 x.2.1 p))) < 0 := c4
              have fl4 : cFl x (-(qlf x S.2.2 6 (S.2.1 1) (qnx x.1 x.2.1 (qnx x.1 x.2.1 p)))) (qnx x.1 x.2.1 (qnx x.1 x.2.1 p)) σ4 := fl4
              have F4 : cBf σ σ4 := cBf_cg F3 g4
              have N4 : σ4 0 4 = σ 0 4 := (congrFun (g4.1 0 (by decide)) 4).trans N3
              have r4_13 : σ4 13 = ful (σ 13) (σ 0 4) r56 := (g4.1 13 (by decide)).trans r3_13
              have r4_14 : σ4 14 = ful (σ 14) (σ 0 4) ((qlf x S.2.2 6 (S.2.1 1) p)) := (g4.1 14 (by decide)).trans r3_14
              have r4_15 : σ4 15 = σ 15 := (g4.1 15 (by decide)).trans r3_15
              have r4_16 : σ4 16 = σ 16 := (g4.1 16 (by decide)).trans r3_16
              refine And.intro (fun _ => ?_) (fun (q : ¬ (-1) = (-1)) => absurd q (by decide))
              refine And.intro (show 0 ≤ 0 ∧ 0 ≤ 1 from by omega) ?_
              refine And.intro (show 0 ≤ 0 ∧ 0 ≤ 1 from by omega) ?_
              refine And.intro (fun _ => ?_) (fun (q : ¬ 0 = 0) => absurd q (by decide))
              refine And.intro (show 0 ≤ 0 ∧ 0 ≤ 1 from by omega) ?_
              have hv : qVe x p = -1 := (cT_ev hT).2 (by omega)
              have hd : qVd x (qnx x.1 x.2.1 p) = 3 := by have := (cT_de T2).1 (by omega); omega
              have hz := qlf_b (x := x) (nm := S.2.2) (p := (qnx x.1 x.2.1 (qnx x.1 x.2.1 p))) (S.2.1 1) 6 hH1.1
              have eL : (qLn x S.2.2 (S.2.1 1) (S.2.1 2) (σ 0 4) p) = (-(qlf x S.2.2 6 (S.2.1 1) (qnx x.1 x.2.1 (qnx x.1 x.2.1 p))), (qnx x.1 x.2.1 (qnx x.1 x.2.1 p))) := (qLn_d hv c1 (by omega) hd (by decide)).trans ((qD2_o (by decide)).trans (qOw_f c4))
              rw [eL] at hF
              exact hF (fun q => hz.2.2 ⟨c4, q⟩) σ4 fl4 F4 N4 (fun t t0 t1 j j1 => by
                rcases (show t = 13 ∨ t = 14 ∨ t = 15 ∨ t = 16 by omega) with rfl | rfl | rfl | rfl
                · exact (congrFun r4_13 j).trans (ful_ne (by omega))
                · exact (congrFun r4_14 j).trans (ful_ne (by omega))
                · exact congrFun r4_15 j
                · exact congrFun r4_16 j)
            · have c4 : 0 ≤ (qlf x S.2.2 6 (S.2.1 1) (qnx x.1 x.2.1 (qnx x.1 x.2.1 p))) := c4
              have kq4 := qlf_k c4
              have bq4 := qlf_u (m := S.2.1 1) hH1.1 c4
              have eR4 : qlk x 6 (S.2.1 1) ((qnx x.1 x.2.1 (qnx x.1 x.2.1 p)), S.2) = (qlf x S.2.2 6 (S.2.1 1) (qnx x.1 x.2.1 (qnx x.1 x.2.1 p))) := rfl
              rw [eR4]
              refine And.intro (fun (q : ((qlf x S.2.2 6 (S.2.1 1) (qnx x.1 x.2.1 (qnx x.1 x.2.1 p)))) = (-1)) => (by exfalso; omega)) (fun _ => ?_)
              refine And.intro (fun (c75 : (σ3 0 4) < 40) => ?_) (fun (c76 : 40 ≤ (σ3 0 4)) => ?_)
              · refine And.intro (show 0 ≤ (σ3 0 4) ∧ (σ3 0 4) < 40 from by omega) ?_
                refine And.intro (show 0 ≤ ((qlf x S.2.2 6 (S.2.1 1) (qnx x.1 x.2.1 (qnx x.1 x.2.1 p)))) ∧ ((qlf x S.2.2 6 (S.2.1 1) (qnx x.1 x.2.1 (qnx x.1 x.2.1 p)))) ≤ 60 from by omega) ?_
                have hk5 : ¬ qkd x.1 x.2.1 x.2.2 (qnx x.1 x.2.1 (qnx x.1 x.2.1 p)) = 0 ∧ ¬ qkd x.1 x.2.1 x.2.2 (qnx x.1 x.2.1 (qnx x.1 x.2.1 p)) = 4 := by first | omega | exact (cT_nks T3).1 (by omega)
                refine And.intro (cT_nx ⟨(cT_b T3 (by decide)), hk5⟩) (fun s5 (σ5 : vS) ha5 f5 t5_ => ?_)
                have T5 : cT x (qnx x.1 x.2.1 (qnx x.1 x.2.1 (qnx x.1 x.2.1 p))) σ5 := cT_next (cT_b T3 (by decide)) hk5 ha5 f5 t5_
                clear ha5
                have F5 : cBf σ σ5 := cBf_cg (cBf_up (by decide) F3) (cg_of f5)
                have N5 : σ5 0 4 = σ 0 4 := (congrFun ((cg_of f5).1 0 (by decide)) 4).trans ((congrFun (vup_fr (by decide)) 4).trans N3)
                have r5_13 : σ5 13 = ful (σ 13) (σ 0 4) r56 := ((cg_of f5).1 13 (by decide)).trans ((vup_fr (by decide)).trans r3_13)
                have r5_14 : σ5 14 = ful (σ 14) (σ 0 4) ((qlf x S.2.2 6 (S.2.1 1) p)) := ((cg_of f5).1 14 (by decide)).trans ((vup_fr (by decide)).trans r3_14)
                have r5_15 : σ5 15 = ful (σ 15) (σ 0 4) ((qlf x S.2.2 6 (S.2.1 1) (qnx x.1 x.2.1 (qnx x.1 x.2.1 p)))) := ((cg_of f5).1 15 (by decide)).trans (vup_f.trans (ful_cg r3_15 N3))
                have r5_16 : σ5 16 = σ 16 := ((cg_of f5).1 16 (by decide)).trans ((vup_fr (by decide)).trans r3_16)
                refine And.intro (show 0 ≤ 1 ∧ 1 ≤ 1 from by omega) ?_
                refine And.intro (show 0 ≤ 1 ∧ 1 ≤ 1 from by omega) ?_
                refine And.intro (fun (q : 1 = 0) => absurd q (by decide)) (fun _ => ?_)
                refine ⟨x, (qnx x.1 x.2.1 (qnx x.1 x.2.1 (qnx x.1 x.2.1 p))), T5, fun e6 (σ6 : vS) fl6 g6 => ?_, fun e6 (σ6 : vS) T6 g6 => ?_⟩
                · have F6 : cBf σ σ6 := cBf_cg F5 g6
                  have N6 : σ6 0 4 = σ 0 4 := (congrFun (g6.1 0 (by decide)) 4).trans N5
                  have r6_13 : σ6 13 = ful (σ 13) (σ 0 4) r56 := (g6.1 13 (by decide)).trans r5_13
                  have r6_14 : σ6 14 = ful (σ 14) (σ 0 4) ((qlf x S.2.2 6 (S.2.1 1) p)) := (g6.1 14 (by decide)).trans r5_14
                  have r6_15 : σ6 15 = ful (σ 15) (σ 0 4) ((qlf x S.2.2 6 (S.2.1 1) (qnx x.1 x.2.1 (qnx x.1 x.2.1 p)))) := (g6.1 15 (by decide)).trans r5_15
                  have r6_16 : σ6 16 = σ 16 := (g6.1 16 (by decide)).trans r5_16
                  refine And.intro (fun (q : ¬ 0 = 0) => absurd q (by decide)) (fun _ => ?_)
                  refine And.intro (show 0 ≤ 0 ∧ 0 ≤ 1 from by omega) ?_
                  have hv : qVe x p = -1 := (cT_ev hT).2 (by omega)
                  have hd : qVd x (qnx x.1 x.2.1 p) = 3 := by have := (cT_de T2).1 (by omega); omega
                  have eL : (qLn x S.2.2 (S.2.1 1) (S.2.1 2) (σ 0 4) p) = (0, (qnx x.1 x.2.1 (qnx x.1 x.2.1 (qnx x.1 x.2.1 p)))) := (qLn_d hv c1 (by omega) hd (by decide)).trans ((qD2_o (by decide)).trans (qOw_s c4))
                  rw [eL] at hG
                  exact (hG rfl).1 e6 σ6 fl6 F6 N6 (fun t t0 t1 j j1 => by
                    rcases (show t = 13 ∨ t = 14 ∨ t = 15 ∨ t = 16 by omega) with rfl | rfl | rfl | rfl
                    · exact (congrFun r6_13 j).trans (ful_ne (by omega))
                    · exact (congrFun r6_14 j).trans (ful_ne (by omega))
                    · exact (congrFun r6_15 j).trans (ful_ne (by omega))
                    · exact congrFun r6_16 j)
                · have F6 : cBf σ σ6 := cBf_cg F5 g6
                  have N6 : σ6 0 4 = σ 0 4 := (congrFun (g6.1 0 (by decide)) 4).trans N5
                  have r6_13 : σ6 13 = ful (σ 13) (σ 0 4) r56 := (g6.1 13 (by decide)).trans r5_13
                  have r6_14 : σ6 14 = ful (σ 14) (σ 0 4) ((qlf x S.2.2 6 (S.2.1 1) p)) := (g6.1 14 (by decide)).trans r5_14
                  have r6_15 : σ6 15 = ful (σ 15) (σ 0 4) ((qlf x S.2.2 6 (S.2.1 1) (qnx x.1 x.2.1 (qnx x.1 x.2.1 p)))) := (g6.1 15 (by decide)).trans r5_15
                  have r6_16 : σ6 16 = σ 16 := (g6.1 16 (by decide)).trans r5_16
                  refine And.intro (fun _ => ?_) (fun (q : 1 = 0) => absurd q (by decide))
                  refine And.intro (show -2147483648 ≤ ((σ6 0 4) + 1) ∧ ((σ6 0 4) + 1) ≤ 2147483647 from by omega) ?_
                  refine And.intro (show 0 ≤ ((σ6 0 4) + 1) ∧ ((σ6 0 4) + 1) ≤ 40 from by omega) ?_
                  refine And.intro (show 0 ≤ 1 ∧ 1 ≤ 1 from by omega) ?_
                  have hv : qVe x p = -1 := (cT_ev hT).2 (by omega)
                  have hd : qVd x (qnx x.1 x.2.1 p) = 3 := by have := (cT_de T2).1 (by omega); omega
                  have eL : (qLn x S.2.2 (S.2.1 1) (S.2.1 2) (σ 0 4) p) = (0, (qnx x.1 x.2.1 (qnx x.1 x.2.1 (qnx x.1 x.2.1 p)))) := (qLn_d hv c1 (by omega) hd (by decide)).trans ((qD2_o (by decide)).trans (qOw_s c4))
                  rw [eL] at hG
                  exact (hG rfl).2 e6 (vup σ6 0 4 ((σ6 0 4) + 1)) (cT_b T6 (by decide)) (cBf_up (by decide) F6) (show σ6 0 4 + 1 = σ 0 4 + 1 from by rw [N6]) (fun t t0 t1 j j1 => by
                    rcases (show t = 13 ∨ t = 14 ∨ t = 15 ∨ t = 16 by omega) with rfl | rfl | rfl | rfl
                    · exact (congrFun ((vup_fr (by decide)).trans r6_13) j).trans (ful_ne (by omega))
                    · exact (congrFun ((vup_fr (by decide)).trans r6_14) j).trans (ful_ne (by omega))
                    · exact (congrFun ((vup_fr (by decide)).trans r6_15) j).trans (ful_ne (by omega))
                    · exact congrFun ((vup_fr (by decide)).trans r6_16) j) (cRow_of ((congrFun ((vup_fr (by decide)).trans r6_13) (σ 0 4)).trans ful_at) ((congrFun ((vup_fr (by decide)).trans r6_14) (σ 0 4)).trans ful_at) ((congrFun ((vup_fr (by decide)).trans r6_15) (σ 0 4)).trans ful_at) rfl (Or.inr (Or.inr (Or.inl ⟨⟨by omega, by omega⟩, ⟨by omega, by omega⟩, by omega, by omega⟩))))
              · refine And.intro (show 0 ≤ 0 ∧ 0 ≤ 1 from by omega) ?_
                refine And.intro (show 0 ≤ 0 ∧ 0 ≤ 1 from by omega) ?_
                refine And.intro (fun _ => ?_) (fun (q : ¬ 0 = 0) => absurd q (by decide))
                refine And.intro (show 0 ≤ 0 ∧ 0 ≤ 1 from by omega) ?_
                exfalso; omega
          · have hk3 : ¬ qkd x.1 x.2.1 x.2.2 (qnx x.1 x.2.1 p) = 0 ∧ ¬ qkd x.1 x.2.1 x.2.2 (qnx x.1 x.2.1 p) = 4 := by first | omega | exact (cT_nks T2).1 (by omega)
            refine And.intro (cT_nx ⟨(cT_b (cT_b T2 (by decide)) (by decide)), hk3⟩) (fun s3 (σ3 : vS) ha3 f3 t3_ => ?_)
            have T3 : cT x (qnx x.1 x.2.1 (qnx x.1 x.2.1 p)) σ3 := cT_next (cT_b (cT_b T2 (by decide)) (by decide)) hk3 ha3 f3 t3_
            clear ha3
            have F3 : cBf σ σ3 := cBf_cg (cBf_up (by decide) (cBf_up (by decide) F2)) (cg_of f3)
            have N3 : σ3 0 4 = σ 0 4 := (congrFun ((cg_of f3).1 0 (by decide)) 4).trans ((congrFun (vup_fr (by decide)) 4).trans ((congrFun (vup_fr (by decide)) 4).trans N2))
            have r3_13 : σ3 13 = ful (σ 13) (σ 0 4) r56 := ((cg_of f3).1 13 (by decide)).trans (vup_f.trans (ful_cg ((vup_fr (by decide)).trans r2_13) N2))
            have r3_14 : σ3 14 = ful (σ 14) (σ 0 4) ((qlf x S.2.2 6 (S.2.1 1) p)) := ((cg_of f3).1 14 (by decide)).trans ((vup_fr (by decide)).trans (vup_f.trans (ful_cg r2_14 N2)))
            have r3_15 : σ3 15 = σ 15 := ((cg_of f3).1 15 (by decide)).trans ((vup_fr (by decide)).trans ((vup_fr (by decide)).trans r2_15))
            have r3_16 : σ3 16 = σ 16 := ((cg_of f3).1 16 (by decide)).trans ((vup_fr (by decide)).trans ((vup_fr (by decide)).trans r2_16))
            refine And.intro (show 0 ≤ 1 ∧ 1 ≤ 1 from by omega) ?_
            refine And.intro (fun (q : 1 = 0) => absurd q (by decide)) (fun _ => ?_)
            refine ⟨x, (qnx x.1 x.2.1 (qnx x.1 x.2.1 p)), T3, fun e4 (σ4 : vS) fl4 g4 => ?_, fun e4 (σ4 : vS) T4 g4 => ?_⟩
            · have F4 : cBf σ σ4 := cBf_cg F3 g4
              have N4 : σ4 0 4 = σ 0 4 := (congrFun (g4.1 0 (by decide)) 4).trans N3
              have r4_13 : σ4 13 = ful (σ 13) (σ 0 4) r56 := (g4.1 13 (by decide)).trans r3_13
              have r4_14 : σ4 14 = ful (σ 14) (σ 0 4) ((qlf x S.2.2 6 (S.2.1 1) p)) := (g4.1 14 (by decide)).trans r3_14
              have r4_15 : σ4 15 = σ 15 := (g4.1 15 (by decide)).trans r3_15
              have r4_16 : σ4 16 = σ 16 := (g4.1 16 (by decide)).trans r3_16
              refine And.intro (fun (q : ¬ 0 = 0) => absurd q (by decide)) (fun _ => ?_)
              refine And.intro (show 0 ≤ 0 ∧ 0 ≤ 1 from by omega) ?_
              have hv : qVe x p = -1 := (cT_ev hT).2 (by omega)
              have hd : qVd x (qnx x.1 x.2.1 p) = 5 := (cT_de T2).2.1 (by omega)
              have eL : (qLn x S.2.2 (S.2.1 1) (S.2.1 2) (σ 0 4) p) = (0, (qnx x.1 x.2.1 (qnx x.1 x.2.1 p))) := (qLn_d hv c1 (by omega) hd (by decide)).trans qD2_5
              rw [eL] at hG
              exact (hG rfl).1 e4 σ4 fl4 F4 N4 (fun t t0 t1 j j1 => by
                rcases (show t = 13 ∨ t = 14 ∨ t = 15 ∨ t = 16 by omega) with rfl | rfl | rfl | rfl
                · exact (congrFun r4_13 j).trans (ful_ne (by omega))
                · exact (congrFun r4_14 j).trans (ful_ne (by omega))
                · exact congrFun r4_15 j
                · exact congrFun r4_16 j)
            · have F4 : cBf σ σ4 := cBf_cg F3 g4
              have N4 : σ4 0 4 = σ 0 4 := (congrFun (g4.1 0 (by decide)) 4).trans N3
              have r4_13 : σ4 13 = ful (σ 13) (σ 0 4) r56 := (g4.1 13 (by decide)).trans r3_13
              have r4_14 : σ4 14 = ful (σ 14) (σ 0 4) ((qlf x S.2.2 6 (S.2.1 1) p)) := (g4.1 14 (by decide)).trans r3_14
              have r4_15 : σ4 15 = σ 15 := (g4.1 15 (by decide)).trans r3_15
              have r4_16 : σ4 16 = σ 16 := (g4.1 16 (by decide)).trans r3_16
              refine And.intro (fun _ => ?_) (fun (q : 1 = 0) => absurd q (by decide))
              refine And.intro (show -2147483648 ≤ ((σ4 0 4) + 1) ∧ ((σ4 0 4) + 1) ≤ 2147483647 from by omega) ?_
              refine And.intro (show 0 ≤ ((σ4 0 4) + 1) ∧ ((σ4 0 4) + 1) ≤ 40 from by omega) ?_
              refine And.intro (show 0 ≤ 1 ∧ 1 ≤ 1 from by omega) ?_
              have hv : qVe x p = -1 := (cT_ev hT).2 (by omega)
              have hd : qVd x (qnx x.1 x.2.1 p) = 5 := (cT_de T2).2.1 (by omega)
              have eL : (qLn x S.2.2 (S.2.1 1) (S.2.1 2) (σ 0 4) p) = (0, (qnx x.1 x.2.1 (qnx x.1 x.2.1 p))) := (qLn_d hv c1 (by omega) hd (by decide)).trans qD2_5
              rw [eL] at hG
              exact (hG rfl).2 e4 (vup σ4 0 4 ((σ4 0 4) + 1)) (cT_b T4 (by decide)) (cBf_up (by decide) F4) (show σ4 0 4 + 1 = σ 0 4 + 1 from by rw [N4]) (fun t t0 t1 j j1 => by
                rcases (show t = 13 ∨ t = 14 ∨ t = 15 ∨ t = 16 by omega) with rfl | rfl | rfl | rfl
                · exact (congrFun ((vup_fr (by decide)).trans r4_13) j).trans (ful_ne (by omega))
                · exact (congrFun ((vup_fr (by decide)).trans r4_14) j).trans (ful_ne (by omega))
                · exact congrFun ((vup_fr (by decide)).trans r4_15) j
                · exact congrFun ((vup_fr (by decide)).trans r4_16) j) (cRow_of ((congrFun ((vup_fr (by decide)).trans r4_13) (σ 0 4)).trans ful_at) ((congrFun ((vup_fr (by decide)).trans r4_14) (σ 0 4)).trans ful_at) rfl rfl (Or.inr (Or.inr (Or.inr (Or.inl ⟨by omega, by omega, by omega⟩)))))
          · have hk3 : ¬ qkd x.1 x.2.1 x.2.2 (qnx x.1 x.2.1 p) = 0 ∧ ¬ qkd x.1 x.2.1 x.2.2 (qnx x.1 x.2.1 p) = 4 := by first | omega | exact (cT_nks T2).1 (by omega)
            refine And.intro (cT_nx ⟨(cT_b (cT_b T2 (by decide)) (by decide)), hk3⟩) (fun s3 (σ3 : vS) ha3 f3 t3_ => ?_)
            have T3 : cT x (qnx x.1 x.2.1 (qnx x.1 x.2.1 p)) σ3 := cT_next (cT_b (cT_b T2 (by decide)) (by decide)) hk3 ha3 f3 t3_
            clear ha3
            have F3 : cBf σ σ3 := cBf_cg (cBf_up (by decide) (cBf_up (by decide) F2)) (cg_of f3)
            have N3 : σ3 0 4 = σ 0 4 := (congrFun ((cg_of f3).1 0 (by decide)) 4).trans ((congrFun (vup_fr (by decide)) 4).trans ((congrFun (vup_fr (by decide)) 4).trans N2))
            have r3_13 : σ3 13 = ful (σ 13) (σ 0 4) r56 := ((cg_of f3).1 13 (by decide)).trans (vup_f.trans (ful_cg ((vup_fr (by decide)).trans r2_13) N2))
            have r3_14 : σ3 14 = ful (σ 14) (σ 0 4) ((qlf x S.2.2 6 (S.2.1 1) p)) := ((cg_of f3).1 14 (by decide)).trans ((vup_fr (by decide)).trans (vup_f.trans (ful_cg r2_14 N2)))
            have r3_15 : σ3 15 = σ 15 := ((cg_of f3).1 15 (by decide)).trans ((vup_fr (by decide)).trans ((vup_fr (by decide)).trans r2_15))
            have r3_16 : σ3 16 = σ 16 := ((cg_of f3).1 16 (by decide)).trans ((vup_fr (by decide)).trans ((vup_fr (by decide)).trans r2_16))
            refine ⟨by omega, x, ((qnx x.1 x.2.1 (qnx x.1 x.2.1 p)), S.2), S.2.1 1, T3, (cSn_b hS F3).1, hS.2, fun q => absurd q (by decide), fun _ => ⟨rfl, fun c4 (σ4 : vS) fl4 g4 => ?_, fun c4 => ?_⟩, fun q => absurd q (by decide)⟩
            · have c4 : (qlf x S.2.2 6 (S.2.1 1) (qnx x.1 x.2.1 (qnx x.1 x.2.1 p))) < 0 := c4
              have fl4 : cFl x (-(qlf x S.2.2 6 (S.2.1 1) (qnx x.1 x.2.1 (qnx x.1 x.2.1 p)))) (qnx x.1 x.2.1 (qnx x.1 x.2.1 p)) σ4 := fl4
              have F4 : cBf σ σ4 := cBf_cg F3 g4
              have N4 : σ4 0 4 = σ 0 4 := (congrFun (g4.1 0 (by decide)) 4).trans N3
              have r4_13 : σ4 13 = ful (σ 13) (σ 0 4) r56 := (g4.1 13 (by decide)).trans r3_13
              have r4_14 : σ4 14 = ful (σ 14) (σ 0 4) ((qlf x S.2.2 6 (S.2.1 1) p)) := (g4.1 14 (by decide)).trans r3_14
              have r4_15 : σ4 15 = σ 15 := (g4.1 15 (by decide)).trans r3_15
              have r4_16 : σ4 16 = σ 16 := (g4.1 16 (by decide)).trans r3_16
              refine And.intro (fun _ => ?_) (fun (q : ¬ (-1) = (-1)) => absurd q (by decide))
              refine And.intro (show 0 ≤ 0 ∧ 0 ≤ 1 from by omega) ?_
              refine And.intro (show 0 ≤ 0 ∧ 0 ≤ 1 from by omega) ?_
              refine And.intro (fun _ => ?_) (fun (q : ¬ 0 = 0) => absurd q (by decide))
              refine And.intro (show 0 ≤ 0 ∧ 0 ≤ 1 from by omega) ?_
              have hv : qVe x p = -1 := (cT_ev hT).2 (by omega)
              have hd : qVd x (qnx x.1 x.2.1 p) = 4 := (cT_de T2).2.2.1 (by omega)
              have hz := qlf_b (x := x) (nm := S.2.2) (p := (qnx x.1 x.2.1 (qnx x.1 x.2.1 p))) (S.2.1 1) 6 hH1.1
              have eL : (qLn x S.2.2 (S.2.1 1) (S.2.1 2) (σ 0 4) p) = (-(qlf x S.2.2 6 (S.2.1 1) (qnx x.1 x.2.1 (qnx x.1 x.2.1 p))), (qnx x.1 x.2.1 (qnx x.1 x.2.1 p))) := (qLn_d hv c1 (by omega) hd (by decide)).trans ((qD2_o (by decide)).trans (qOw_f c4))
              rw [eL] at hF
              exact hF (fun q => hz.2.2 ⟨c4, q⟩) σ4 fl4 F4 N4 (fun t t0 t1 j j1 => by
                rcases (show t = 13 ∨ t = 14 ∨ t = 15 ∨ t = 16 by omega) with rfl | rfl | rfl | rfl
                · exact (congrFun r4_13 j).trans (ful_ne (by omega))
                · exact (congrFun r4_14 j).trans (ful_ne (by omega))
                · exact congrFun r4_15 j
                · exact congrFun r4_16 j)
            · have c4 : 0 ≤ (qlf x S.2.2 6 (S.2.1 1) (qnx x.1 x.2.1 (qnx x.1 x.2.1 p))) := c4
              have kq4 := qlf_k c4
              have bq4 := qlf_u (m := S.2.1 1) hH1.1 c4
              have eR4 : qlk x 6 (S.2.1 1) ((qnx x.1 x.2.1 (qnx x.1 x.2.1 p)), S.2) = (qlf x S.2.2 6 (S.2.1 1) (qnx x.1 x.2.1 (qnx x.1 x.2.1 p))) := rfl
              rw [eR4]
              refine And.intro (fun (q : ((qlf x S.2.2 6 (S.2.1 1) (qnx x.1 x.2.1 (qnx x.1 x.2.1 p)))) = (-1)) => (by exfalso; omega)) (fun _ => ?_)
              refine And.intro (fun (c77 : (σ3 0 4) < 40) => ?_) (fun (c78 : 40 ≤ (σ3 0 4)) => ?_)
              · refine And.intro (show 0 ≤ (σ3 0 4) ∧ (σ3 0 4) < 40 from by omega) ?_
                refine And.intro (show 0 ≤ ((qlf x S.2.2 6 (S.2.1 1) (qnx x.1 x.2.1 (qnx x.1 x.2.1 p)))) ∧ ((qlf x S.2.2 6 (S.2.1 1) (qnx x.1 x.2.1 (qnx x.1 x.2.1 p)))) ≤ 60 from by omega) ?_
                have hk5 : ¬ qkd x.1 x.2.1 x.2.2 (qnx x.1 x.2.1 (qnx x.1 x.2.1 p)) = 0 ∧ ¬ qkd x.1 x.2.1 x.2.2 (qnx x.1 x.2.1 (qnx x.1 x.2.1 p)) = 4 := by first | omega | exact (cT_nks T3).1 (by omega)
                refine And.intro (cT_nx ⟨(cT_b T3 (by decide)), hk5⟩) (fun s5 (σ5 : vS) ha5 f5 t5_ => ?_)
                have T5 : cT x (qnx x.1 x.2.1 (qnx x.1 x.2.1 (qnx x.1 x.2.1 p))) σ5 := cT_next (cT_b T3 (by decide)) hk5 ha5 f5 t5_
                clear ha5
                have F5 : cBf σ σ5 := cBf_cg (cBf_up (by decide) F3) (cg_of f5)
                have N5 : σ5 0 4 = σ 0 4 := (congrFun ((cg_of f5).1 0 (by decide)) 4).trans ((congrFun (vup_fr (by decide)) 4).trans N3)
                have r5_13 : σ5 13 = ful (σ 13) (σ 0 4) r56 := ((cg_of f5).1 13 (by decide)).trans ((vup_fr (by decide)).trans r3_13)
                have r5_14 : σ5 14 = ful (σ 14) (σ 0 4) ((qlf x S.2.2 6 (S.2.1 1) p)) := ((cg_of f5).1 14 (by decide)).trans ((vup_fr (by decide)).trans r3_14)
                have r5_15 : σ5 15 = ful (σ 15) (σ 0 4) ((qlf x S.2.2 6 (S.2.1 1) (qnx x.1 x.2.1 (qnx x.1 x.2.1 p)))) := ((cg_of f5).1 15 (by decide)).trans (vup_f.trans (ful_cg r3_15 N3))
                have r5_16 : σ5 16 = σ 16 := ((cg_of f5).1 16 (by decide)).trans ((vup_fr (by decide)).trans r3_16)
                refine And.intro (show 0 ≤ 1 ∧ 1 ≤ 1 from by omega) ?_
                refine And.intro (show 0 ≤ 1 ∧ 1 ≤ 1 from by omega) ?_
                refine And.intro (fun (q : 1 = 0) => absurd q (by decide)) (fun _ => ?_)
                refine ⟨x, (qnx x.1 x.2.1 (qnx x.1 x.2.1 (qnx x.1 x.2.1 p))), T5, fun e6 (σ6 : vS) fl6 g6 => ?_, fun e6 (σ6 : vS) T6 g6 => ?_⟩
                · have F6 : cBf σ σ6 := cBf_cg F5 g6
                  have N6 : σ6 0 4 = σ 0 4 := (congrFun (g6.1 0 (by decide)) 4).trans N5
                  have r6_13 : σ6 13 = ful (σ 13) (σ 0 4) r56 := (g6.1 13 (by decide)).trans r5_13
                  have r6_14 : σ6 14 = ful (σ 14) (σ 0 4) ((qlf x S.2.2 6 (S.2.1 1) p)) := (g6.1 14 (by decide)).trans r5_14
                  have r6_15 : σ6 15 = ful (σ 15) (σ 0 4) ((qlf x S.2.2 6 (S.2.1 1) (qnx x.1 x.2.1 (qnx x.1 x.2.1 p)))) := (g6.1 15 (by decide)).trans r5_15
                  have r6_16 : σ6 16 = σ 16 := (g6.1 16 (by decide)).trans r5_16
                  refine And.intro (fun (q : ¬ 0 = 0) => absurd q (by decide)) (fun _ => ?_)
                  refine And.intro (show 0 ≤ 0 ∧ 0 ≤ 1 from by omega) ?_
                  have hv : qVe x p = -1 := (cT_ev hT).2 (by omega)
                  have hd : qVd x (qnx x.1 x.2.1 p) = 4 := (cT_de T2).2.2.1 (by omega)
                  have eL : (qLn x S.2.2 (S.2.1 1) (S.2.1 2) (σ 0 4) p) = (0, (qnx x.1 x.2.1 (qnx x.1 x.2.1 (qnx x.1 x.2.1 p)))) := (qLn_d hv c1 (by omega) hd (by decide)).trans ((qD2_o (by decide)).trans (qOw_s c4))
                  rw [eL] at hG
                  exact (hG rfl).1 e6 σ6 fl6 F6 N6 (fun t t0 t1 j j1 => by
                    rcases (show t = 13 ∨ t = 14 ∨ t = 15 ∨ t = 16 by omega) with rfl | rfl | rfl | rfl
                    · exact (congrFun r6_13 j).trans (ful_ne (by omega))
                    · exact (congrFun r6_14 j).trans (ful_ne (by omega))
                    · exact (congrFun r6_15 j).trans (ful_ne (by omega))
                    · exact congrFun r6_16 j)
                · have F6 : cBf σ σ6 := cBf_cg F5 g6
                  have N6 : σ6 0 4 = σ 0 4 := (congrFun (g6.1 0 (by decide)) 4).trans N5
                  have r6_13 : σ6 13 = ful (σ 13) (σ 0 4) r56 := (g6.1 13 (by decide)).trans r5_13
                  have r6_14 : σ6 14 = ful (σ 14) (σ 0 4) ((qlf x S.2.2 6 (S.2.1 1) p)) := (g6.1 14 (by decide)).trans r5_14
                  have r6_15 : σ6 15 = ful (σ 15) (σ 0 4) ((qlf x S.2.2 6 (S.2.1 1) (qnx x.1 x.2.1 (qnx x.1 x.2.1 p)))) := (g6.1 15 (by decide)).trans r5_15
                  have r6_16 : σ6 16 = σ 16 := (g6.1 16 (by decide)).trans r5_16
                  refine And.intro (fun _ => ?_) (fun (q : 1 = 0) => absurd q (by decide))
                  refine And.intro (show -2147483648 ≤ ((σ6 0 4) + 1) ∧ ((σ6 0 4) + 1) ≤ 2147483647 from by omega) ?_
                  refine And.intro (show 0 ≤ ((σ6 0 4) + 1) ∧ ((σ6 0 4) + 1) ≤ 40 from by omega) ?_
                  refine And.intro (show 0 ≤ 1 ∧ 1 ≤ 1 from by omega) ?_
                  have hv : qVe x p = -1 := (cT_ev hT).2 (by omega)
                  have hd : qVd x (qnx x.1 x.2.1 p) = 4 := (cT_de T2).2.2.1 (by omega)
                  have eL : (qLn x S.2.2 (S.2.1 1) (S.2.1 2) (σ 0 4) p) = (0, (qnx x.1 x.2.1 (qnx x.1 x.2.1 (qnx x.1 x.2.1 p)))) := (qLn_d hv c1 (by omega) hd (by decide)).trans ((qD2_o (by decide)).trans (qOw_s c4))
                  rw [eL] at hG
                  exact (hG rfl).2 e6 (vup σ6 0 4 ((σ6 0 4) + 1)) (cT_b T6 (by decide)) (cBf_up (by decide) F6) (show σ6 0 4 + 1 = σ 0 4 + 1 from by rw [N6]) (fun t t0 t1 j j1 => by
                    rcases (show t = 13 ∨ t = 14 ∨ t = 15 ∨ t = 16 by omega) with rfl | rfl | rfl | rfl
                    · exact (congrFun ((vup_fr (by decide)).trans r6_13) j).trans (ful_ne (by omega))
                    · exact (congrFun ((vup_fr (by decide)).trans r6_14) j).trans (ful_ne (by omega))
                    · exact (congrFun ((vup_fr (by decide)).trans r6_15) j).trans (ful_ne (by omega))
                    · exact congrFun ((vup_fr (by decide)).trans r6_16) j) (cRow_of ((congrFun ((vup_fr (by decide)).trans r6_13) (σ 0 4)).trans ful_at) ((congrFun ((vup_fr (by decide)).trans r6_14) (σ 0 4)).trans ful_at) ((congrFun ((vup_fr (by decide)).trans r6_15) (σ 0 4)).trans ful_at) rfl (Or.inr (Or.inr (Or.inr (Or.inr (Or.inl ⟨by omega, ⟨by omega, by omega⟩, by omega, by omega⟩))))))
              · refine And.intro (show 0 ≤ 0 ∧ 0 ≤ 1 from by omega) ?_
                refine And.intro (show 0 ≤ 0 ∧ 0 ≤ 1 from by omega) ?_
                refine And.intro (fun _ => ?_) (fun (q : ¬ 0 = 0) => absurd q (by decide))
                refine And.intro (show 0 ≤ 0 ∧ 0 ≤ 1 from by omega) ?_
                exfalso; omega
          · refine And.intro (cT_fl (cT_b (cT_b T2 (by decide)) (by decide)) (by omega)) ?_
            refine And.intro (show 0 ≤ 0 ∧ 0 ≤ 1 from by omega) ?_
            refine And.intro (fun _ => ?_) (fun (q : ¬ 0 = 0) => absurd q (by decide))
            refine And.intro (show 0 ≤ 0 ∧ 0 ≤ 1 from by omega) ?_
            have hv : qVe x p = -1 := (cT_ev hT).2 (by omega)
            have hd : qVd x (qnx x.1 x.2.1 p) = -1 := (cT_de T2).2.2.2 (by omega)
            have eL : (qLn x S.2.2 (S.2.1 1) (S.2.1 2) (σ 0 4) p) = (1, (qnx x.1 x.2.1 p)) := qLn_1 hv c1 (by omega) hd
            rw [eL] at hF
            exact hF (by show ¬ ((1 : Int) = 0); decide) (vup (vup (vup (vup σ2 14 (σ2 0 4) ((qlf x S.2.2 6 (S.2.1 1) p))) 13 (σ2 0 4) r56) 7 2 1) 7 3 ((vup (vup σ2 14 (σ2 0 4) ((qlf x S.2.2 6 (S.2.1 1) p))) 13 (σ2 0 4) r56) 7 5)) (cFl_of (cT_b (cT_b T2 (by decide)) (by decide))) (cBf_cg (cBf_up (by decide) (cBf_up (by decide) F2)) cg_fl) ((congrFun (vup_fr (by decide)) 4).trans ((congrFun (vup_fr (by decide)) 4).trans ((congrFun (vup_fr (by decide)) 4).trans ((congrFun (vup_fr (by decide)) 4).trans N2)))) (fun t t0 t1 j j1 => by
              rcases (show t = 13 ∨ t = 14 ∨ t = 15 ∨ t = 16 by omega) with rfl | rfl | rfl | rfl
              · exact (congrFun ((vup_fr (by decide)).trans ((vup_fr (by decide)).trans (vup_f.trans (ful_cg ((vup_fr (by decide)).trans r2_13) N2)))) j).trans (ful_ne (by omega))
              · exact (congrFun ((vup_fr (by decide)).trans ((vup_fr (by decide)).trans ((vup_fr (by decide)).trans (vup_f.trans (ful_cg r2_14 N2))))) j).trans (ful_ne (by omega))
              · exact congrFun ((vup_fr (by decide)).trans ((vup_fr (by decide)).trans ((vup_fr (by decide)).trans ((vup_fr (by decide)).trans r2_15)))) j
              · exact congrFun ((vup_fr (by decide)).trans ((vup_fr (by decide)).trans ((vup_fr (by decide)).trans ((vup_fr (by decide)).trans r2_16)))) j)
        · refine And.intro (cT_fl hT (by omega)) ?_
          refine And.intro (show 0 ≤ 0 ∧ 0 ≤ 1 from by omega) ?_
          have hv : qVe x p = -1 := (cT_ev hT).2 (by omega)
          have eL : (qLn x S.2.2 (S.2.1 1) (S.2.1 2) (σ 0 4) p) = (4, p) := qLn_4o hv c1 (by omega)
          rw [eL] at hF
          exact hF (by show ¬ ((4 : Int) = 0); decide) (vup (vup σ 7 2 4) 7 3 (σ 7 5)) (cFl_of hT) (cBf_cg cBf_refl cg_fl) ((congrFun (vup_fr (by decide)) 4).trans ((congrFun (vup_fr (by decide)) 4).trans (rfl : σ 0 4 = σ 0 4))) (fun t t0 t1 j j1 => by
            rcases (show t = 13 ∨ t = 14 ∨ t = 15 ∨ t = 16 by omega) with rfl | rfl | rfl | rfl
            · exact congrFun ((vup_fr (by decide)).trans ((vup_fr (by decide)).trans (rfl : σ 13 = σ 13))) j
            · exact congrFun ((vup_fr (by decide)).trans ((vup_fr (by decide)).trans (rfl : σ 14 = σ 14))) j
            · exact congrFun ((vup_fr (by decide)).trans ((vup_fr (by decide)).trans (rfl : σ 15 = σ 15))) j
            · exact congrFun ((vup_fr (by decide)).trans ((vup_fr (by decide)).trans (rfl : σ 16 = σ 16))) j)
  · exact absurd h id
end ZVL5
