/-! THE CLASS READS A TERRACE: readLiking, readPassage, readNewName. -/
section ZV4
variable {E : zE} {w : va_W} {σ : vS} {K : vKL}
theorem cT_num {x : qX} {p : Int} {σ : vS} (h : cT x p σ) : σ 7 4 = 4 ↔ qkd x.1 x.2.1 x.2.2 p = 2 ∧ σ 7 6 = qvl x.1 x.2.1 p := by
  rcases h.2.1.2 with ⟨a, b⟩ | ⟨a, b⟩ | ⟨a, ⟨b, c, d⟩ | ⟨b, c, d⟩ | ⟨b, c, d, e⟩⟩
  · omega
  · omega
  · omega
  · omega
  · rcases e with e | e <;> omega
theorem cT_num0 {x : qX} {p : Int} {σ : vS} (h : cT x p σ) : σ 7 4 = 4 ↔ qkd x.1 x.2.1 x.2.2 p = 2 := by
  rcases h.2.1.2 with ⟨a, b⟩ | ⟨a, b⟩ | ⟨a, ⟨b, c, d⟩ | ⟨b, c, d⟩ | ⟨b, c, d, e⟩⟩
  · omega
  · omega
  · omega
  · omega
  · rcases e with e | e <;> omega
theorem kw_2 {x : qX} {p : Int} (h : qkd x.1 x.2.1 x.2.2 p = 2) : ¬ qkd x.1 x.2.1 x.2.2 p = 0 ∧ ¬ qkd x.1 x.2.1 x.2.2 p = 4 := by omega
set_option maxRecDepth 8192 in
theorem vk_97 (X : zX gKX E) (B : zB E) : zOKC E md72 w 97 vs97 := by
  intro q hq vs σ K h
  cases (show gMT 97 = some (gm_97, 5) from rfl).symm.trans hq
  unfold vs97 at h
  split at h
  · skip
    show zGC E md72 w gm_97 0 [(0, .inr (.inl 9)), (1, .inr (.inl 7))] σ K
    obtain ⟨x, S, hT, k4, hB, hS, hK⟩ := h
    have hH : cHn S := ⟨hS.2.1, hS.2.2.1, hS.2.2.2.1⟩
    have hS0 := hS.2.1; have hS1 := hS.2.2.1; have hS2 := hS.2.2.2.1; have hS3 := hS.2.2.2.2.1
    refine zbdC (fun hb => zgoC X B (vL3_ok X B) [] [] (fun m => false) (by decide +kernel) ?_)
    refine And.intro (cT_nx ⟨hT, k4⟩) (fun s1 (σ1 : vS) hh1 fr1 tt1 => ?_)
    have T1 : cT x (qadv x S).1 σ1 := cT_nextS (S := S) hT k4 hh1 fr1 tt1
    have B1 : cTb (qadv x S) σ1 := cTb_a (cTb_fr hB fr1.1)
    have em2 : (S.2.1 1) = S.2.1 1 := by simp only [qadv_2]
    have j2 : (qlk x 6 (S.2.1 1) (qadv x S)) < (S.2.1 1) := qlk_b (by omega)
    have jj2 : -3 ≤ (qlk x 6 (S.2.1 1) (qadv x S)) := qlk_m (by omega)
    refine ⟨by decide, x, (qadv x S), (S.2.1 1), T1, B1.1, (cHn_a hH), fun q => absurd q (by decide), fun _ => ⟨by simp only [qadv_2], fun (o2 : (qlk x 6 (S.2.1 1) (qadv x S)) < 0) (σ2 : vS) (F2 : cFl x (-(qlk x 6 (S.2.1 1) (qadv x S))) (qadv x S).1 σ2) (G2 : cg σ1 σ2) => ?_, fun (o2 : 0 ≤ (qlk x 6 (S.2.1 1) (qadv x S))) => ?_⟩, fun q => absurd q (by decide)⟩
    · refine And.intro (fun (q : ¬ (-1) = (-1)) => absurd q (by decide)) (fun _ => ?_)
      refine And.intro (show 0 ≤ 0 ∧ 0 ≤ 1 from by omega) ?_
      exact cRs_f hK (S := (qadv x S)) (k := -(qlk x 6 (S.2.1 1) (qadv x S))) (by unfold qLike; exact qtn_f (show (qlk x 6 (S.2.1 1) (qadv x S)) < 0 from o2)) (by omega) F2
    · refine And.intro (fun _ => ?_) (fun (q : ((qlk x 6 (S.2.1 1) (qadv x S))) = (-1)) => (by exfalso; omega))
      refine And.intro (cT_nx ⟨T1, (kw_n (qlk_n o2))⟩) (fun s3 (σ3 : vS) hh3 fr3 tt3 => ?_)
      have T3 : cT x (qadv x (qadv x S)).1 σ3 := cT_nextS (S := (qadv x S)) T1 (kw_n (qlk_n o2)) hh3 fr3 tt3
      have B3 : cTb (qadv x (qadv x S)) σ3 := cTb_a (cTb_fr B1 fr3.1)
      have em4 : ((qadv x S).2.1 2) = S.2.1 2 := by simp only [qadv_2]
      have j4 : (qlk x 12 ((qadv x S).2.1 2) (qadv x (qadv x S))) < ((qadv x S).2.1 2) := qlk_b (by omega)
      have jj4 : -3 ≤ (qlk x 12 ((qadv x S).2.1 2) (qadv x (qadv x S))) := qlk_m (by omega)
      refine ⟨by decide, x, (qadv x (qadv x S)), ((qadv x S).2.1 2), T3, B3.1, (cHn_a (cHn_a hH)), fun q => absurd q (by decide), fun q => absurd q (by decide), fun _ => ⟨by simp only [qadv_2], fun (o4 : (qlk x 12 ((qadv x S).2.1 2) (qadv x (qadv x S))) < 0) (σ4 : vS) (F4 : cFl x (-(qlk x 12 ((qadv x S).2.1 2) (qadv x (qadv x S)))) (qadv x (qadv x S)).1 σ4) (G4 : cg σ3 σ4) => ?_, fun (o4 : 0 ≤ (qlk x 12 ((qadv x S).2.1 2) (qadv x (qadv x S)))) => ?_⟩⟩
      · refine And.intro (fun (q : ¬ (-1) = (-1)) => absurd q (by decide)) (fun _ => ?_)
        refine And.intro (show 0 ≤ 0 ∧ 0 ≤ 1 from by omega) ?_
        exact cRs_f hK (S := (qadv x (qadv x S))) (k := -(qlk x 12 ((qadv x S).2.1 2) (qadv x (qadv x S)))) (by unfold qLike; exact (qtn_k (show 0 ≤ (qlk x 6 (S.2.1 1) (qadv x S)) from o2)).trans (qtn_f (show (qlk x 12 ((qadv x S).2.1 2) (qadv x (qadv x S))) < 0 from o4))) (by omega) F4
      · refine And.intro (fun _ => ?_) (fun (q : ((qlk x 12 ((qadv x S).2.1 2) (qadv x (qadv x S)))) = (-1)) => (by exfalso; omega))
        refine And.intro (fun (q : ((qlk x 6 (S.2.1 1) (qadv x S))) < 0) => (by exfalso; omega)) (fun _ => ?_)
        refine And.intro (fun (q : 6 ≤ ((qlk x 6 (S.2.1 1) (qadv x S)))) => (by exfalso; omega)) (fun _ => ?_)
        refine And.intro (show 0 ≤ 1 ∧ 1 ≤ 1 from by omega) ?_
        refine And.intro (fun (q : 1 = 0) => absurd q (by decide)) (fun _ => ?_)
        refine And.intro (fun (q : ((qlk x 12 ((qadv x S).2.1 2) (qadv x (qadv x S)))) < 0) => (by exfalso; omega)) (fun _ => ?_)
        refine And.intro (fun (q : 12 ≤ ((qlk x 12 ((qadv x S).2.1 2) (qadv x (qadv x S))))) => (by exfalso; omega)) (fun _ => ?_)
        refine And.intro (show 0 ≤ 1 ∧ 1 ≤ 1 from by omega) ?_
        refine And.intro (fun (q : 1 = 0) => absurd q (by decide)) (fun _ => ?_)
        refine And.intro (show -2147483648 ≤ (((qlk x 6 (S.2.1 1) (qadv x S))) * 12) ∧ (((qlk x 6 (S.2.1 1) (qadv x S))) * 12) ≤ 2147483647 from by omega) ?_
        refine And.intro (show -2147483648 ≤ ((((qlk x 6 (S.2.1 1) (qadv x S))) * 12) + ((qlk x 12 ((qadv x S).2.1 2) (qadv x (qadv x S))))) ∧ ((((qlk x 6 (S.2.1 1) (qadv x S))) * 12) + ((qlk x 12 ((qadv x S).2.1 2) (qadv x (qadv x S))))) ≤ 2147483647 from by omega) ?_
        refine And.intro (show 0 ≤ ((((qlk x 6 (S.2.1 1) (qadv x S))) * 12) + ((qlk x 12 ((qadv x S).2.1 2) (qadv x (qadv x S))))) ∧ ((((qlk x 6 (S.2.1 1) (qadv x S))) * 12) + ((qlk x 12 ((qadv x S).2.1 2) (qadv x (qadv x S))))) < 72 from by omega) ?_
        refine And.intro (fun (c1 : (σ3 86 ((((qlk x 6 (S.2.1 1) (qadv x S))) * 12) + ((qlk x 12 ((qadv x S).2.1 2) (qadv x (qadv x S)))))) = 0) => ?_) (fun (c2 : ¬ (σ3 86 ((((qlk x 6 (S.2.1 1) (qadv x S))) * 12) + ((qlk x 12 ((qadv x S).2.1 2) (qadv x (qadv x S)))))) = 0) => ?_)
        · refine And.intro (cT_nx ⟨T3, (kw_n (qlk_n o4))⟩) (fun s5 (σ5 : vS) hh5 fr5 tt5 => ?_)
          have T5 : cT x (qadv x (qadv x (qadv x S))).1 σ5 := cT_nextS (S := (qadv x (qadv x S))) T3 (kw_n (qlk_n o4)) hh5 fr5 tt5
          have B5 : cTb (qadv x (qadv x (qadv x S))) σ5 := cTb_a (cTb_fr B3 fr5.1)
          refine ⟨(cT_fl T5 (k := 1) (by omega)).2, fun n1 => ?_, fun n1 n2 => ?_, fun n1 n2 n3 => ?_⟩
          · refine And.intro (fun (q : ¬ (-1) = (-1)) => absurd q (by decide)) (fun _ => ?_)
            refine And.intro (show 0 ≤ 0 ∧ 0 ≤ 1 from by omega) ?_
            have eb : σ3 86 ((qlk x 6 (S.2.1 1) (qadv x S)) * 12 + (qlk x 12 ((qadv x S).2.1 2) (qadv x (qadv x S)))) = S.2.1 (107 + ((qlk x 6 (S.2.1 1) (qadv x S)) * 12 + (qlk x 12 ((qadv x S).2.1 2) (qadv x (qadv x S))))) := B3.2.2.2.1 ((qlk x 6 (S.2.1 1) (qadv x S)) * 12 + (qlk x 12 ((qadv x S).2.1 2) (qadv x (qadv x S)))) (by omega) (by omega)
            have ei : 107 + ((qlk x 6 (S.2.1 1) (qadv x S)) * 12 + (qlk x 12 ((qadv x S).2.1 2) (qadv x (qadv x S)))) = 107 + 12 * (qlk x 6 (S.2.1 1) (qadv x S)) + (qlk x 12 ((qadv x S).2.1 2) (qadv x (qadv x S))) := by omega
            rw [ei] at eb
            have bd : 0 ≤ S.2.1 (107 + (12 * (qlk x 6 (S.2.1 1) (qadv x S)) + (qlk x 12 ((qadv x S).2.1 2) (qadv x (qadv x S))))) := (hS.2.2.2.2.2.2.2.2 (12 * (qlk x 6 (S.2.1 1) (qadv x S)) + (qlk x 12 ((qadv x S).2.1 2) (qadv x (qadv x S)))) (by omega) (by omega)).1
            have ei2 : 107 + (12 * (qlk x 6 (S.2.1 1) (qadv x S)) + (qlk x 12 ((qadv x S).2.1 2) (qadv x (qadv x S)))) = 107 + 12 * (qlk x 6 (S.2.1 1) (qadv x S)) + (qlk x 12 ((qadv x S).2.1 2) (qadv x (qadv x S))) := by omega
            rw [ei2] at bd
            have cc : ¬ 0 < S.2.1 (107 + 12 * (qlk x 6 (S.2.1 1) (qadv x S)) + (qlk x 12 ((qadv x S).2.1 2) (qadv x (qadv x S)))) := by omega
            exact cRs_f hK (S := (qadv x (qadv x (qadv x S)))) (k := 1) (by unfold qLike; exact (qtn_k (show 0 ≤ (qlk x 6 (S.2.1 1) (qadv x S)) from o2)).trans ((qtn_k (show 0 ≤ (qlk x 12 ((qadv x S).2.1 2) (qadv x (qadv x S))) from o4)).trans ((if_neg cc).trans (if_neg (show ¬ qtk x (qadv x (qadv x (qadv x S))) = 2 from fun z => n1 ((cT_num0 T5).mpr z)))))) (by decide) (cFl_of T5)
          · refine And.intro (fun (q : ¬ (-1) = (-1)) => absurd q (by decide)) (fun _ => ?_)
            refine And.intro (show 0 ≤ 0 ∧ 0 ≤ 1 from by omega) ?_
            have eb : σ3 86 ((qlk x 6 (S.2.1 1) (qadv x S)) * 12 + (qlk x 12 ((qadv x S).2.1 2) (qadv x (qadv x S)))) = S.2.1 (107 + ((qlk x 6 (S.2.1 1) (qadv x S)) * 12 + (qlk x 12 ((qadv x S).2.1 2) (qadv x (qadv x S))))) := B3.2.2.2.1 ((qlk x 6 (S.2.1 1) (qadv x S)) * 12 + (qlk x 12 ((qadv x S).2.1 2) (qadv x (qadv x S)))) (by omega) (by omega)
            have ei : 107 + ((qlk x 6 (S.2.1 1) (qadv x S)) * 12 + (qlk x 12 ((qadv x S).2.1 2) (qadv x (qadv x S)))) = 107 + 12 * (qlk x 6 (S.2.1 1) (qadv x S)) + (qlk x 12 ((qadv x S).2.1 2) (qadv x (qadv x S))) := by omega
            rw [ei] at eb
            have bd : 0 ≤ S.2.1 (107 + (12 * (qlk x 6 (S.2.1 1) (qadv x S)) + (qlk x 12 ((qadv x S).2.1 2) (qadv x (qadv x S))))) := (hS.2.2.2.2.2.2.2.2 (12 * (qlk x 6 (S.2.1 1) (qadv x S)) + (qlk x 12 ((qadv x S).2.1 2) (qadv x (qadv x S)))) (by omega) (by omega)).1
            have ei2 : 107 + (12 * (qlk x 6 (S.2.1 1) (qadv x S)) + (qlk x 12 ((qadv x S).2.1 2) (qadv x (qadv x S)))) = 107 + 12 * (qlk x 6 (S.2.1 1) (qadv x S)) + (qlk x 12 ((qadv x S).2.1 2) (qadv x (qadv x S))) := by omega
            rw [ei2] at bd
            have cc : ¬ 0 < S.2.1 (107 + 12 * (qlk x 6 (S.2.1 1) (qadv x S)) + (qlk x 12 ((qadv x S).2.1 2) (qadv x (qadv x S)))) := by omega
            have n4 := (cT_num T5).mp n1
            exact cRs_f hK (S := (qadv x (qadv x (qadv x S)))) (k := 2) (by unfold qLike; exact (qtn_k (show 0 ≤ (qlk x 6 (S.2.1 1) (qadv x S)) from o2)).trans ((qtn_k (show 0 ≤ (qlk x 12 ((qadv x S).2.1 2) (qadv x (qadv x S))) from o4)).trans ((if_neg cc).trans ((if_pos (show qtk x (qadv x (qadv x (qadv x S))) = 2 from n4.1)).trans (if_neg (show ¬ (1 ≤ qvl x.1 x.2.1 (qadv x (qadv x (qadv x S))).1 ∧ qvl x.1 x.2.1 (qadv x (qadv x (qadv x S))).1 ≤ 9) by rw [show qvl x.1 x.2.1 (qadv x (qadv x (qadv x S))).1 = σ5 7 6 from n4.2.symm]; omega)))))) (by decide) (cFl_of T5)
          · have n4 := (cT_num T5).mp n1
            refine And.intro (fun _ => ?_) (fun (q : (σ5 7 6) = (-1)) => (by exfalso; omega))
            refine And.intro (fun (q : ((qlk x 6 (S.2.1 1) (qadv x S))) < 0) => (by exfalso; omega)) (fun _ => ?_)
            refine And.intro (fun (q : 6 ≤ ((qlk x 6 (S.2.1 1) (qadv x S)))) => (by exfalso; omega)) (fun _ => ?_)
            refine And.intro (show 0 ≤ 1 ∧ 1 ≤ 1 from by omega) ?_
            refine And.intro (fun (q : 1 = 0) => absurd q (by decide)) (fun _ => ?_)
            refine And.intro (fun (q : ((qlk x 12 ((qadv x S).2.1 2) (qadv x (qadv x S)))) < 0) => (by exfalso; omega)) (fun _ => ?_)
            refine And.intro (fun (q : 12 ≤ ((qlk x 12 ((qadv x S).2.1 2) (qadv x (qadv x S))))) => (by exfalso; omega)) (fun _ => ?_)
            refine And.intro (show 0 ≤ 1 ∧ 1 ≤ 1 from by omega) ?_
            refine And.intro (fun (q : 1 = 0) => absurd q (by decide)) (fun _ => ?_)
            refine And.intro (show -2147483648 ≤ (((qlk x 6 (S.2.1 1) (qadv x S))) * 12) ∧ (((qlk x 6 (S.2.1 1) (qadv x S))) * 12) ≤ 2147483647 from by omega) ?_
            refine And.intro (show -2147483648 ≤ ((((qlk x 6 (S.2.1 1) (qadv x S))) * 12) + ((qlk x 12 ((qadv x S).2.1 2) (qadv x (qadv x S))))) ∧ ((((qlk x 6 (S.2.1 1) (qadv x S))) * 12) + ((qlk x 12 ((qadv x S).2.1 2) (qadv x (qadv x S))))) ≤ 2147483647 from by omega) ?_
            refine And.intro (show 0 ≤ ((((qlk x 6 (S.2.1 1) (qadv x S))) * 12) + ((qlk x 12 ((qadv x S).2.1 2) (qadv x (qadv x S))))) ∧ ((((qlk x 6 (S.2.1 1) (qadv x S))) * 12) + ((qlk x 12 ((qadv x S).2.1 2) (qadv x (qadv x S))))) < 72 from by omega) ?_
            refine And.intro (show 0 ≤ (σ5 7 6) ∧ (σ5 7 6) ≤ 9 from by omega) ?_
            have Bw6 : cTb (qst (107 + 12 * (qlk x 6 (S.2.1 1) (qadv x S)) + (qlk x 12 ((qadv x S).2.1 2) (qadv x (qadv x S)))) (qvl x.1 x.2.1 (qadv x (qadv x (qadv x S))).1) (qadv x (qadv x (qadv x S)))) (vup σ5 86 ((((qlk x 6 (S.2.1 1) (qadv x S))) * 12) + ((qlk x 12 ((qadv x S).2.1 2) (qadv x (qadv x S))))) (σ5 7 6)) := (by rw [n4.2]; exact cTb_st (by simp only [qadv_2]; omega) B5 (i := 107 + 12 * (qlk x 6 (S.2.1 1) (qadv x S)) + (qlk x 12 ((qadv x S).2.1 2) (qadv x (qadv x S)))) (v := qvl x.1 x.2.1 (qadv x (qadv x (qadv x S))).1) (Or.inl ⟨rfl, by omega, by omega, by omega, rfl⟩))
            refine And.intro (cT_nx ⟨(cT_t T5 (by decide)), (kw_2 n4.1)⟩) (fun s6 (σ6 : vS) hh6 fr6 tt6 => ?_)
            have T6 : cT x (qadv x (qst (107 + 12 * (qlk x 6 (S.2.1 1) (qadv x S)) + (qlk x 12 ((qadv x S).2.1 2) (qadv x (qadv x S)))) (qvl x.1 x.2.1 (qadv x (qadv x (qadv x S))).1) (qadv x (qadv x (qadv x S))))).1 σ6 := cT_nextS (S := (qst (107 + 12 * (qlk x 6 (S.2.1 1) (qadv x S)) + (qlk x 12 ((qadv x S).2.1 2) (qadv x (qadv x S)))) (qvl x.1 x.2.1 (qadv x (qadv x (qadv x S))).1) (qadv x (qadv x (qadv x S))))) (cT_t T5 (by decide)) (kw_2 n4.1) hh6 fr6 tt6
            have B6 : cTb (qadv x (qst (107 + 12 * (qlk x 6 (S.2.1 1) (qadv x S)) + (qlk x 12 ((qadv x S).2.1 2) (qadv x (qadv x S)))) (qvl x.1 x.2.1 (qadv x (qadv x (qadv x S))).1) (qadv x (qadv x (qadv x S))))) σ6 := cTb_a (cTb_fr Bw6 fr6.1)
            refine And.intro (show 0 ≤ 1 ∧ 1 ≤ 1 from by omega) ?_
            have eb : σ3 86 ((qlk x 6 (S.2.1 1) (qadv x S)) * 12 + (qlk x 12 ((qadv x S).2.1 2) (qadv x (qadv x S)))) = S.2.1 (107 + ((qlk x 6 (S.2.1 1) (qadv x S)) * 12 + (qlk x 12 ((qadv x S).2.1 2) (qadv x (qadv x S))))) := B3.2.2.2.1 ((qlk x 6 (S.2.1 1) (qadv x S)) * 12 + (qlk x 12 ((qadv x S).2.1 2) (qadv x (qadv x S)))) (by omega) (by omega)
            have ei : 107 + ((qlk x 6 (S.2.1 1) (qadv x S)) * 12 + (qlk x 12 ((qadv x S).2.1 2) (qadv x (qadv x S)))) = 107 + 12 * (qlk x 6 (S.2.1 1) (qadv x S)) + (qlk x 12 ((qadv x S).2.1 2) (qadv x (qadv x S))) := by omega
            rw [ei] at eb
            have bd : 0 ≤ S.2.1 (107 + (12 * (qlk x 6 (S.2.1 1) (qadv x S)) + (qlk x 12 ((qadv x S).2.1 2) (qadv x (qadv x S))))) := (hS.2.2.2.2.2.2.2.2 (12 * (qlk x 6 (S.2.1 1) (qadv x S)) + (qlk x 12 ((qadv x S).2.1 2) (qadv x (qadv x S)))) (by omega) (by omega)).1
            have ei2 : 107 + (12 * (qlk x 6 (S.2.1 1) (qadv x S)) + (qlk x 12 ((qadv x S).2.1 2) (qadv x (qadv x S)))) = 107 + 12 * (qlk x 6 (S.2.1 1) (qadv x S)) + (qlk x 12 ((qadv x S).2.1 2) (qadv x (qadv x S))) := by omega
            rw [ei2] at bd
            have cc : ¬ 0 < S.2.1 (107 + 12 * (qlk x 6 (S.2.1 1) (qadv x S)) + (qlk x 12 ((qadv x S).2.1 2) (qadv x (qadv x S)))) := by omega
            exact cRs_d hK (S := (qadv x (qst (107 + 12 * (qlk x 6 (S.2.1 1) (qadv x S)) + (qlk x 12 ((qadv x S).2.1 2) (qadv x (qadv x S)))) (qvl x.1 x.2.1 (qadv x (qadv x (qadv x S))).1) (qadv x (qadv x (qadv x S)))))) (by unfold qLike; exact (qtn_k (show 0 ≤ (qlk x 6 (S.2.1 1) (qadv x S)) from o2)).trans ((qtn_k (show 0 ≤ (qlk x 12 ((qadv x S).2.1 2) (qadv x (qadv x S))) from o4)).trans ((if_neg cc).trans ((if_pos (show qtk x (qadv x (qadv x (qadv x S))) = 2 from n4.1)).trans (if_pos (show 1 ≤ qvl x.1 x.2.1 (qadv x (qadv x (qadv x S))).1 ∧ qvl x.1 x.2.1 (qadv x (qadv x (qadv x S))).1 ≤ 9 by rw [show qvl x.1 x.2.1 (qadv x (qadv x (qadv x S))).1 = σ5 7 6 from n4.2.symm]; omega)))))) T6 B6
        · refine And.intro (cT_fl T3 (by omega)) ?_
          refine And.intro (show 0 ≤ 0 ∧ 0 ≤ 1 from by omega) ?_
          have eb : σ3 86 ((qlk x 6 (S.2.1 1) (qadv x S)) * 12 + (qlk x 12 ((qadv x S).2.1 2) (qadv x (qadv x S)))) = S.2.1 (107 + ((qlk x 6 (S.2.1 1) (qadv x S)) * 12 + (qlk x 12 ((qadv x S).2.1 2) (qadv x (qadv x S))))) := B3.2.2.2.1 ((qlk x 6 (S.2.1 1) (qadv x S)) * 12 + (qlk x 12 ((qadv x S).2.1 2) (qadv x (qadv x S)))) (by omega) (by omega)
          have ei : 107 + ((qlk x 6 (S.2.1 1) (qadv x S)) * 12 + (qlk x 12 ((qadv x S).2.1 2) (qadv x (qadv x S)))) = 107 + 12 * (qlk x 6 (S.2.1 1) (qadv x S)) + (qlk x 12 ((qadv x S).2.1 2) (qadv x (qadv x S))) := by omega
          rw [ei] at eb
          have bd : 0 ≤ S.2.1 (107 + (12 * (qlk x 6 (S.2.1 1) (qadv x S)) + (qlk x 12 ((qadv x S).2.1 2) (qadv x (qadv x S))))) := (hS.2.2.2.2.2.2.2.2 (12 * (qlk x 6 (S.2.1 1) (qadv x S)) + (qlk x 12 ((qadv x S).2.1 2) (qadv x (qadv x S)))) (by omega) (by omega)).1
          have ei2 : 107 + (12 * (qlk x 6 (S.2.1 1) (qadv x S)) + (qlk x 12 ((qadv x S).2.1 2) (qadv x (qadv x S)))) = 107 + 12 * (qlk x 6 (S.2.1 1) (qadv x S)) + (qlk x 12 ((qadv x S).2.1 2) (qadv x (qadv x S))) := by omega
          rw [ei2] at bd
          have cc : 0 < S.2.1 (107 + 12 * (qlk x 6 (S.2.1 1) (qadv x S)) + (qlk x 12 ((qadv x S).2.1 2) (qadv x (qadv x S)))) := by omega
          exact cRs_f hK (S := (qadv x (qadv x S))) (k := 3) (by unfold qLike; exact (qtn_k (show 0 ≤ (qlk x 6 (S.2.1 1) (qadv x S)) from o2)).trans ((qtn_k (show 0 ≤ (qlk x 12 ((qadv x S).2.1 2) (qadv x (qadv x S))) from o4)).trans (if_pos cc))) (by decide) (cFl_of T3)
  · exact absurd h id
theorem cjn_q {S : qS} {σ : vS} {a b : Int} (h : cTb S σ) (h3 : 0 ≤ S.2.1 3) : cjn σ a b (σ 78 8) ↔ qjn S.2.1 a b (S.2.1 3).toNat = true := by
  rw [qjn_iff, h.2.1.1]
  constructor
  · rintro ⟨i, hi, g⟩
    obtain ⟨g1, g2⟩ := h.2.2.1 i hi.1 hi.2
    exact ⟨i, by omega, by rw [← g1, ← g2]; omega⟩
  · rintro ⟨i, hi, g⟩
    obtain ⟨g1, g2⟩ := h.2.2.1 i hi.1 (by omega)
    exact ⟨i, by omega, by rw [g1, g2]; omega⟩
set_option maxRecDepth 8192 in
theorem vk_99 (X : zX gKX E) (B : zB E) : zOKC E md72 w 99 vs99 := by
  intro q hq vs σ K h
  cases (show gMT 99 = some (gm_99, 5) from rfl).symm.trans hq
  unfold vs99 at h
  split at h
  · rename_i robe
    show zGC E md72 w gm_99 0 [(0, .inr (.inl 9)), (1, .inr (.inl 7)), (2, .inl robe)] σ K
    obtain ⟨hr, x, S, hT, k4, hB, hS, hK⟩ := h
    have hH : cHn S := ⟨hS.2.1, hS.2.2.1, hS.2.2.2.1⟩
    have hS0 := hS.2.1; have hS1 := hS.2.2.1; have hS2 := hS.2.2.2.1; have hS3 := hS.2.2.2.2.1
    have h33 : σ 78 8 = S.2.1 3 := hB.2.1.1
    rcases hr with rfl | rfl
    · refine zbdC (fun hb => zgoC X B (vL3_ok X B) [] [] (fun m => false) (by decide +kernel) ?_)
      have f1 : 0 ≤ σ 78 8 ∧ σ 78 8 ≤ 20 := zfC hb (t := 78) (f := 8) (by decide +kernel)
      refine And.intro (fun (c2 : (σ 78 8) < 20) => ?_) (fun (c3 : 20 ≤ (σ 78 8)) => ?_)
      · refine And.intro (cT_nx ⟨hT, k4⟩) (fun s1 (σ1 : vS) hh1 fr1 tt1 => ?_)
        have T1 : cT x (qadv x S).1 σ1 := cT_nextS (S := S) hT k4 hh1 fr1 tt1
        have B1 : cTb (qadv x S) σ1 := cTb_a (cTb_fr hB fr1.1)
        have em2 : (S.2.1 2) = S.2.1 2 := by simp only [qadv_2]
        have j2 : (qlk x 12 (S.2.1 2) (qadv x S)) < (S.2.1 2) := qlk_b (by omega)
        have jj2 : -3 ≤ (qlk x 12 (S.2.1 2) (qadv x S)) := qlk_m (by omega)
        refine ⟨by decide, x, (qadv x S), (S.2.1 2), T1, B1.1, (cHn_a hH), fun q => absurd q (by decide), fun q => absurd q (by decide), fun _ => ⟨by simp only [qadv_2], fun (o2 : (qlk x 12 (S.2.1 2) (qadv x S)) < 0) (σ2 : vS) (F2 : cFl x (-(qlk x 12 (S.2.1 2) (qadv x S))) (qadv x S).1 σ2) (G2 : cg σ1 σ2) => ?_, fun (o2 : 0 ≤ (qlk x 12 (S.2.1 2) (qadv x S))) => ?_⟩⟩
        · refine And.intro (fun (q : ¬ (-1) = (-1)) => absurd q (by decide)) (fun _ => ?_)
          refine And.intro (show 0 ≤ 0 ∧ 0 ≤ 1 from by omega) ?_
          exact cRs_f hK (S := (qadv x S)) (k := -(qlk x 12 (S.2.1 2) (qadv x S))) (by unfold qPas; exact (if_neg (by have := hB.2.1.1; omega)).trans (qtn_f (show (qlk x 12 (S.2.1 2) (qadv x S)) < 0 from o2))) (by omega) F2
        · refine And.intro (fun _ => ?_) (fun (q : ((qlk x 12 (S.2.1 2) (qadv x S))) = (-1)) => (by exfalso; omega))
          refine And.intro (cT_nx ⟨T1, (kw_n (qlk_n o2))⟩) (fun s3 (σ3 : vS) hh3 fr3 tt3 => ?_)
          have T3 : cT x (qadv x (qadv x S)).1 σ3 := cT_nextS (S := (qadv x S)) T1 (kw_n (qlk_n o2)) hh3 fr3 tt3
          have B3 : cTb (qadv x (qadv x S)) σ3 := cTb_a (cTb_fr B1 fr3.1)
          have em4 : ((qadv x S).2.1 2) = S.2.1 2 := by simp only [qadv_2]
          have j4 : (qlk x 12 ((qadv x S).2.1 2) (qadv x (qadv x S))) < ((qadv x S).2.1 2) := qlk_b (by omega)
          have jj4 : -3 ≤ (qlk x 12 ((qadv x S).2.1 2) (qadv x (qadv x S))) := qlk_m (by omega)
          refine ⟨by decide, x, (qadv x (qadv x S)), ((qadv x S).2.1 2), T3, B3.1, (cHn_a (cHn_a hH)), fun q => absurd q (by decide), fun q => absurd q (by decide), fun _ => ⟨by simp only [qadv_2], fun (o4 : (qlk x 12 ((qadv x S).2.1 2) (qadv x (qadv x S))) < 0) (σ4 : vS) (F4 : cFl x (-(qlk x 12 ((qadv x S).2.1 2) (qadv x (qadv x S)))) (qadv x (qadv x S)).1 σ4) (G4 : cg σ3 σ4) => ?_, fun (o4 : 0 ≤ (qlk x 12 ((qadv x S).2.1 2) (qadv x (qadv x S)))) => ?_⟩⟩
          · refine And.intro (fun (q : ¬ (-1) = (-1)) => absurd q (by decide)) (fun _ => ?_)
            refine And.intro (show 0 ≤ 0 ∧ 0 ≤ 1 from by omega) ?_
            exact cRs_f hK (S := (qadv x (qadv x S))) (k := -(qlk x 12 ((qadv x S).2.1 2) (qadv x (qadv x S)))) (by unfold qPas; exact (if_neg (by have := hB.2.1.1; omega)).trans ((qtn_k (show 0 ≤ (qlk x 12 (S.2.1 2) (qadv x S)) from o2)).trans (qtn_f (show (qlk x 12 ((qadv x S).2.1 2) (qadv x (qadv x S))) < 0 from o4)))) (by omega) F4
          · refine And.intro (fun _ => ?_) (fun (q : ((qlk x 12 ((qadv x S).2.1 2) (qadv x (qadv x S)))) = (-1)) => (by exfalso; omega))
            refine And.intro (fun (c4 : ((qlk x 12 (S.2.1 2) (qadv x S))) = ((qlk x 12 ((qadv x S).2.1 2) (qadv x (qadv x S))))) => ?_) (fun (c5 : ¬ ((qlk x 12 (S.2.1 2) (qadv x S))) = ((qlk x 12 ((qadv x S).2.1 2) (qadv x (qadv x S))))) => ?_)
            · refine And.intro (cT_fl T3 (by omega)) ?_
              refine And.intro (show 0 ≤ 0 ∧ 0 ≤ 1 from by omega) ?_
              exact cRs_f hK (S := (qadv x (qadv x S))) (k := 3) (by unfold qPas; exact (if_neg (by have := hB.2.1.1; omega)).trans ((qtn_k (show 0 ≤ (qlk x 12 (S.2.1 2) (qadv x S)) from o2)).trans ((qtn_k (show 0 ≤ (qlk x 12 ((qadv x S).2.1 2) (qadv x (qadv x S))) from o4)).trans (if_pos (show (qlk x 12 (S.2.1 2) (qadv x S)) = (qlk x 12 ((qadv x S).2.1 2) (qadv x (qadv x S))) ∨ qjn (qadv x (qadv x S)).2.1 (qlk x 12 (S.2.1 2) (qadv x S)) (qlk x 12 ((qadv x S).2.1 2) (qadv x (qadv x S))) ((qadv x (qadv x S)).2.1 3).toNat = true by first | exact Or.inr jq | exact Or.inl (by omega)))))) (by decide) (cFl_of T3)
            · refine ⟨⟨⟨by omega, by omega⟩, by omega, by omega⟩, fun jn => ?_, fun jn => ?_⟩
              · have jq := (cjn_q B3 (a := (qlk x 12 (S.2.1 2) (qadv x S))) (b := (qlk x 12 ((qadv x S).2.1 2) (qadv x (qadv x S)))) (by simp only [qadv_2]; omega)).mp jn
                refine And.intro (fun (q : 1 = 0) => absurd q (by decide)) (fun _ => ?_)
                refine And.intro (cT_fl T3 (by omega)) ?_
                refine And.intro (show 0 ≤ 0 ∧ 0 ≤ 1 from by omega) ?_
                exact cRs_f hK (S := (qadv x (qadv x S))) (k := 3) (by unfold qPas; exact (if_neg (by have := hB.2.1.1; omega)).trans ((qtn_k (show 0 ≤ (qlk x 12 (S.2.1 2) (qadv x S)) from o2)).trans ((qtn_k (show 0 ≤ (qlk x 12 ((qadv x S).2.1 2) (qadv x (qadv x S))) from o4)).trans (if_pos (show (qlk x 12 (S.2.1 2) (qadv x S)) = (qlk x 12 ((qadv x S).2.1 2) (qadv x (qadv x S))) ∨ qjn (qadv x (qadv x S)).2.1 (qlk x 12 (S.2.1 2) (qadv x S)) (qlk x 12 ((qadv x S).2.1 2) (qadv x (qadv x S))) ((qadv x (qadv x S)).2.1 3).toNat = true by first | exact Or.inr jq | exact Or.inl (by omega)))))) (by decide) (cFl_of T3)
              · have jq := (not_congr (cjn_q B3 (a := (qlk x 12 (S.2.1 2) (qadv x S))) (b := (qlk x 12 ((qadv x S).2.1 2) (qadv x (qadv x S)))) (by simp only [qadv_2]; omega))).mp jn
                have e38 : σ3 78 8 = S.2.1 3 := by have := B3.2.1.1; simp only [qadv_2] at this; exact this
                refine And.intro (fun _ => ?_) (fun (q : ¬ 0 = 0) => absurd q (by decide))
                refine And.intro (fun (c6 : 20 ≤ (σ3 78 8)) => ?_) (fun (c7 : (σ3 78 8) < 20) => ?_)
                · refine And.intro (cT_nx ⟨T3, (kw_n (qlk_n o4))⟩) (fun s5 (σ5 : vS) hh5 fr5 tt5 => ?_)
                  have T5 : cT x (qadv x (qadv x (qadv x S))).1 σ5 := cT_nextS (S := (qadv x (qadv x S))) T3 (kw_n (qlk_n o4)) hh5 fr5 tt5
                  have B5 : cTb (qadv x (qadv x (qadv x S))) σ5 := cTb_a (cTb_fr B3 fr5.1)
                  refine And.intro (show 0 ≤ 1 ∧ 1 ≤ 1 from by omega) ?_
                  exfalso; omega
                · refine And.intro (show 0 ≤ (σ3 78 8) ∧ (σ3 78 8) < 20 from by omega) ?_
                  refine And.intro (show 0 ≤ ((qlk x 12 (S.2.1 2) (qadv x S))) ∧ ((qlk x 12 (S.2.1 2) (qadv x S))) ≤ 11 from by omega) ?_
                  refine And.intro (show 0 ≤ (σ3 78 8) ∧ (σ3 78 8) < 20 from by omega) ?_
                  refine And.intro (show 0 ≤ ((qlk x 12 ((qadv x S).2.1 2) (qadv x (qadv x S)))) ∧ ((qlk x 12 ((qadv x S).2.1 2) (qadv x (qadv x S)))) ≤ 11 from by omega) ?_
                  refine And.intro (fun _ => ?_) (fun (q : ¬ 0 = 0) => absurd q (by decide))
                  refine And.intro (show Int.negSucc 2147483647 ≤ (vor (σ3 78 9) 0) ∧ (vor (σ3 78 9) 0) ≤ 2147483647 from rgm (by have := vor_b (x := (σ3 78 9)) (y := 0); omega)) ?_
                  refine And.intro (show -2147483648 ≤ ((σ3 78 8) + 1) ∧ ((σ3 78 8) + 1) ≤ 2147483647 from by omega) ?_
                  refine And.intro (show 0 ≤ ((σ3 78 8) + 1) ∧ ((σ3 78 8) + 1) ≤ 20 from by omega) ?_
                  have Bw6 : cTb (qJoin 0 (qlk x 12 (S.2.1 2) (qadv x S)) (qlk x 12 ((qadv x S).2.1 2) (qadv x (qadv x S))) (qadv x (qadv x S))) (vup (vup (vup (vup σ3 84 (σ3 78 8) ((qlk x 12 (S.2.1 2) (qadv x S)))) 85 (σ3 78 8) ((qlk x 12 ((qadv x S).2.1 2) (qadv x (qadv x S))))) 78 9 (vor (σ3 78 9) 0)) 78 8 ((σ3 78 8) + 1)) := (by
                                        have e8 : σ3 78 8 = (qadv x (qadv x S)).2.1 3 := B3.2.1.1
                                        rw [e8]
                                        exact cTb_join (S := (qadv x (qadv x S))) (a := (qlk x 12 (S.2.1 2) (qadv x S))) (b := (qlk x 12 ((qadv x S).2.1 2) (qadv x (qadv x S)))) (r := 0) B3 (by simp only [qadv_2]; omega) (rbk_0 B3.2.1.2))
                  refine And.intro (cT_nx ⟨(cT_t (cT_t (cT_t (cT_t T3 (by decide)) (by decide)) (by decide)) (by decide)), (kw_n (qlk_n o4))⟩) (fun s6 (σ6 : vS) hh6 fr6 tt6 => ?_)
                  have T6 : cT x (qadv x (qJoin 0 (qlk x 12 (S.2.1 2) (qadv x S)) (qlk x 12 ((qadv x S).2.1 2) (qadv x (qadv x S))) (qadv x (qadv x S)))).1 σ6 := cT_nextS (S := (qJoin 0 (qlk x 12 (S.2.1 2) (qadv x S)) (qlk x 12 ((qadv x S).2.1 2) (qadv x (qadv x S))) (qadv x (qadv x S)))) (cT_t (cT_t (cT_t (cT_t T3 (by decide)) (by decide)) (by decide)) (by decide)) (kw_n (qlk_n o4)) hh6 fr6 tt6
                  have B6 : cTb (qadv x (qJoin 0 (qlk x 12 (S.2.1 2) (qadv x S)) (qlk x 12 ((qadv x S).2.1 2) (qadv x (qadv x S))) (qadv x (qadv x S)))) σ6 := cTb_a (cTb_fr Bw6 fr6.1)
                  refine And.intro (show 0 ≤ 1 ∧ 1 ≤ 1 from by omega) ?_
                  simp only [qadv_2] at jq
                  exact cRs_d hK (S := (qadv x (qJoin 0 (qlk x 12 (S.2.1 2) (qadv x S)) (qlk x 12 ((qadv x S).2.1 2) (qadv x (qadv x S))) (qadv x (qadv x S))))) (by unfold qPas; exact (if_neg (by have := hB.2.1.1; omega)).trans ((qtn_k (show 0 ≤ (qlk x 12 (S.2.1 2) (qadv x S)) from o2)).trans ((qtn_k (show 0 ≤ (qlk x 12 ((qadv x S).2.1 2) (qadv x (qadv x S))) from o4)).trans (if_neg (show ¬ ((qlk x 12 (S.2.1 2) (qadv x S)) = (qlk x 12 ((qadv x S).2.1 2) (qadv x (qadv x S))) ∨ qjn (qadv x (qadv x S)).2.1 (qlk x 12 (S.2.1 2) (qadv x S)) (qlk x 12 ((qadv x S).2.1 2) (qadv x (qadv x S))) ((qadv x (qadv x S)).2.1 3).toNat = true) from fun z => by rcases z with z | z; omega; simp only [qadv_2] at z; exact jq z))))) T6 B6
      · refine And.intro (cT_fl hT (by omega)) ?_
        refine And.intro (show 0 ≤ 0 ∧ 0 ≤ 1 from by omega) ?_
        exact cRs_f hK (S := S) (k := 4) (by unfold qPas; exact if_pos (by have := hB.2.1.1; omega)) (by decide) (cFl_of hT)
    · refine zbdC (fun hb => zgoC X B (vL3_ok X B) [] [] (fun m => false) (by decide +kernel) ?_)
      have f1 : 0 ≤ σ 78 8 ∧ σ 78 8 ≤ 20 := zfC hb (t := 78) (f := 8) (by decide +kernel)
      refine And.intro (fun (c2 : (σ 78 8) < 20) => ?_) (fun (c3 : 20 ≤ (σ 78 8)) => ?_)
      · refine And.intro (cT_nx ⟨hT, k4⟩) (fun s1 (σ1 : vS) hh1 fr1 tt1 => ?_)
        have T1 : cT x (qadv x S).1 σ1 := cT_nextS (S := S) hT k4 hh1 fr1 tt1
        have B1 : cTb (qadv x S) σ1 := cTb_a (cTb_fr hB fr1.1)
        have em2 : (S.2.1 2) = S.2.1 2 := by simp only [qadv_2]
        have j2 : (qlk x 12 (S.2.1 2) (qadv x S)) < (S.2.1 2) := qlk_b (by omega)
        have jj2 : -3 ≤ (qlk x 12 (S.2.1 2) (qadv x S)) := qlk_m (by omega)
        refine ⟨by decide, x, (qadv x S), (S.2.1 2), T1, B1.1, (cHn_a hH), fun q => absurd q (by decide), fun q => absurd q (by decide), fun _ => ⟨by simp only [qadv_2], fun (o2 : (qlk x 12 (S.2.1 2) (qadv x S)) < 0) (σ2 : vS) (F2 : cFl x (-(qlk x 12 (S.2.1 2) (qadv x S))) (qadv x S).1 σ2) (G2 : cg σ1 σ2) => ?_, fun (o2 : 0 ≤ (qlk x 12 (S.2.1 2) (qadv x S))) => ?_⟩⟩
        · refine And.intro (fun (q : ¬ (-1) = (-1)) => absurd q (by decide)) (fun _ => ?_)
          refine And.intro (show 0 ≤ 0 ∧ 0 ≤ 1 from by omega) ?_
          exact cRs_f hK (S := (qadv x S)) (k := -(qlk x 12 (S.2.1 2) (qadv x S))) (by unfold qPas; exact (if_neg (by have := hB.2.1.1; omega)).trans (qtn_f (show (qlk x 12 (S.2.1 2) (qadv x S)) < 0 from o2))) (by omega) F2
        · refine And.intro (fun _ => ?_) (fun (q : ((qlk x 12 (S.2.1 2) (qadv x S))) = (-1)) => (by exfalso; omega))
          refine And.intro (cT_nx ⟨T1, (kw_n (qlk_n o2))⟩) (fun s3 (σ3 : vS) hh3 fr3 tt3 => ?_)
          have T3 : cT x (qadv x (qadv x S)).1 σ3 := cT_nextS (S := (qadv x S)) T1 (kw_n (qlk_n o2)) hh3 fr3 tt3
          have B3 : cTb (qadv x (qadv x S)) σ3 := cTb_a (cTb_fr B1 fr3.1)
          have em4 : ((qadv x S).2.1 2) = S.2.1 2 := by simp only [qadv_2]
          have j4 : (qlk x 12 ((qadv x S).2.1 2) (qadv x (qadv x S))) < ((qadv x S).2.1 2) := qlk_b (by omega)
          have jj4 : -3 ≤ (qlk x 12 ((qadv x S).2.1 2) (qadv x (qadv x S))) := qlk_m (by omega)
          refine ⟨by decide, x, (qadv x (qadv x S)), ((qadv x S).2.1 2), T3, B3.1, (cHn_a (cHn_a hH)), fun q => absurd q (by decide), fun q => absurd q (by decide), fun _ => ⟨by simp only [qadv_2], fun (o4 : (qlk x 12 ((qadv x S).2.1 2) (qadv x (qadv x S))) < 0) (σ4 : vS) (F4 : cFl x (-(qlk x 12 ((qadv x S).2.1 2) (qadv x (qadv x S)))) (qadv x (qadv x S)).1 σ4) (G4 : cg σ3 σ4) => ?_, fun (o4 : 0 ≤ (qlk x 12 ((qadv x S).2.1 2) (qadv x (qadv x S)))) => ?_⟩⟩
          · refine And.intro (fun (q : ¬ (-1) = (-1)) => absurd q (by decide)) (fun _ => ?_)
            refine And.intro (show 0 ≤ 0 ∧ 0 ≤ 1 from by omega) ?_
            exact cRs_f hK (S := (qadv x (qadv x S))) (k := -(qlk x 12 ((qadv x S).2.1 2) (qadv x (qadv x S)))) (by unfold qPas; exact (if_neg (by have := hB.2.1.1; omega)).trans ((qtn_k (show 0 ≤ (qlk x 12 (S.2.1 2) (qadv x S)) from o2)).trans (qtn_f (show (qlk x 12 ((qadv x S).2.1 2) (qadv x (qadv x S))) < 0 from o4)))) (by omega) F4
          · refine And.intro (fun _ => ?_) (fun (q : ((qlk x 12 ((qadv x S).2.1 2) (qadv x (qadv x S)))) = (-1)) => (by exfalso; omega))
            refine And.intro (fun (c4 : ((qlk x 12 (S.2.1 2) (qadv x S))) = ((qlk x 12 ((qadv x S).2.1 2) (qadv x (qadv x S))))) => ?_) (fun (c5 : ¬ ((qlk x 12 (S.2.1 2) (qadv x S))) = ((qlk x 12 ((qadv x S).2.1 2) (qadv x (qadv x S))))) => ?_)
            · refine And.intro (cT_fl T3 (by omega)) ?_
              refine And.intro (show 0 ≤ 0 ∧ 0 ≤ 1 from by omega) ?_
              exact cRs_f hK (S := (qadv x (qadv x S))) (k := 3) (by unfold qPas; exact (if_neg (by have := hB.2.1.1; omega)).trans ((qtn_k (show 0 ≤ (qlk x 12 (S.2.1 2) (qadv x S)) from o2)).trans ((qtn_k (show 0 ≤ (qlk x 12 ((qadv x S).2.1 2) (qadv x (qadv x S))) from o4)).trans (if_pos (show (qlk x 12 (S.2.1 2) (qadv x S)) = (qlk x 12 ((qadv x S).2.1 2) (qadv x (qadv x S))) ∨ qjn (qadv x (qadv x S)).2.1 (qlk x 12 (S.2.1 2) (qadv x S)) (qlk x 12 ((qadv x S).2.1 2) (qadv x (qadv x S))) ((qadv x (qadv x S)).2.1 3).toNat = true by first | exact Or.inr jq | exact Or.inl (by omega)))))) (by decide) (cFl_of T3)
            · refine ⟨⟨⟨by omega, by omega⟩, by omega, by omega⟩, fun jn => ?_, fun jn => ?_⟩
              · have jq := (cjn_q B3 (a := (qlk x 12 (S.2.1 2) (qadv x S))) (b := (qlk x 12 ((qadv x S).2.1 2) (qadv x (qadv x S)))) (by simp only [qadv_2]; omega)).mp jn
                refine And.intro (fun (q : 1 = 0) => absurd q (by decide)) (fun _ => ?_)
                refine And.intro (cT_fl T3 (by omega)) ?_
                refine And.intro (show 0 ≤ 0 ∧ 0 ≤ 1 from by omega) ?_
                exact cRs_f hK (S := (qadv x (qadv x S))) (k := 3) (by unfold qPas; exact (if_neg (by have := hB.2.1.1; omega)).trans ((qtn_k (show 0 ≤ (qlk x 12 (S.2.1 2) (qadv x S)) from o2)).trans ((qtn_k (show 0 ≤ (qlk x 12 ((qadv x S).2.1 2) (qadv x (qadv x S))) from o4)).trans (if_pos (show (qlk x 12 (S.2.1 2) (qadv x S)) = (qlk x 12 ((qadv x S).2.1 2) (qadv x (qadv x S))) ∨ qjn (qadv x (qadv x S)).2.1 (qlk x 12 (S.2.1 2) (qadv x S)) (qlk x 12 ((qadv x S).2.1 2) (qadv x (qadv x S))) ((qadv x (qadv x S)).2.1 3).toNat = true by first | exact Or.inr jq | exact Or.inl (by omega)))))) (by decide) (cFl_of T3)
              · have jq := (not_congr (cjn_q B3 (a := (qlk x 12 (S.2.1 2) (qadv x S))) (b := (qlk x 12 ((qadv x S).2.1 2) (qadv x (qadv x S)))) (by simp only [qadv_2]; omega))).mp jn
                have e38 : σ3 78 8 = S.2.1 3 := by have := B3.2.1.1; simp only [qadv_2] at this; exact this
                refine And.intro (fun _ => ?_) (fun (q : ¬ 0 = 0) => absurd q (by decide))
                refine And.intro (fun (c6 : 20 ≤ (σ3 78 8)) => ?_) (fun (c7 : (σ3 78 8) < 20) => ?_)
                · refine And.intro (cT_nx ⟨T3, (kw_n (qlk_n o4))⟩) (fun s5 (σ5 : vS) hh5 fr5 tt5 => ?_)
                  have T5 : cT x (qadv x (qadv x (qadv x S))).1 σ5 := cT_nextS (S := (qadv x (qadv x S))) T3 (kw_n (qlk_n o4)) hh5 fr5 tt5
                  have B5 : cTb (qadv x (qadv x (qadv x S))) σ5 := cTb_a (cTb_fr B3 fr5.1)
                  refine And.intro (show 0 ≤ 1 ∧ 1 ≤ 1 from by omega) ?_
                  exfalso; omega
                · refine And.intro (show 0 ≤ (σ3 78 8) ∧ (σ3 78 8) < 20 from by omega) ?_
                  refine And.intro (show 0 ≤ ((qlk x 12 (S.2.1 2) (qadv x S))) ∧ ((qlk x 12 (S.2.1 2) (qadv x S))) ≤ 11 from by omega) ?_
                  refine And.intro (show 0 ≤ (σ3 78 8) ∧ (σ3 78 8) < 20 from by omega) ?_
                  refine And.intro (show 0 ≤ ((qlk x 12 ((qadv x S).2.1 2) (qadv x (qadv x S)))) ∧ ((qlk x 12 ((qadv x S).2.1 2) (qadv x (qadv x S)))) ≤ 11 from by omega) ?_
                  refine And.intro (fun (q : 1 = 0) => absurd q (by decide)) (fun _ => ?_)
                  refine And.intro (show Int.negSucc 2147483647 ≤ (vor (σ3 78 9) (vshl 1 (σ3 78 8))) ∧ (vor (σ3 78 9) (vshl 1 (σ3 78 8))) ≤ 2147483647 from rgm (by have := vor_b (x := (σ3 78 9)) (y := (vshl 1 (σ3 78 8))); omega)) ?_
                  refine And.intro (show -2147483648 ≤ ((σ3 78 8) + 1) ∧ ((σ3 78 8) + 1) ≤ 2147483647 from by omega) ?_
                  refine And.intro (show 0 ≤ ((σ3 78 8) + 1) ∧ ((σ3 78 8) + 1) ≤ 20 from by omega) ?_
                  have Bw6 : cTb (qJoin 1 (qlk x 12 (S.2.1 2) (qadv x S)) (qlk x 12 ((qadv x S).2.1 2) (qadv x (qadv x S))) (qadv x (qadv x S))) (vup (vup (vup (vup σ3 84 (σ3 78 8) ((qlk x 12 (S.2.1 2) (qadv x S)))) 85 (σ3 78 8) ((qlk x 12 ((qadv x S).2.1 2) (qadv x (qadv x S))))) 78 9 (vor (σ3 78 9) (vshl 1 (σ3 78 8)))) 78 8 ((σ3 78 8) + 1)) := (by
                                        have e8 : σ3 78 8 = (qadv x (qadv x S)).2.1 3 := B3.2.1.1
                                        rw [e8]
                                        exact cTb_join (S := (qadv x (qadv x S))) (a := (qlk x 12 (S.2.1 2) (qadv x S))) (b := (qlk x 12 ((qadv x S).2.1 2) (qadv x (qadv x S)))) (r := 1) B3 (by simp only [qadv_2]; omega) (rbk_1 B3.2.1.2 (by simp only [qadv_2]; omega)))
                  refine And.intro (cT_nx ⟨(cT_t (cT_t (cT_t (cT_t T3 (by decide)) (by decide)) (by decide)) (by decide)), (kw_n (qlk_n o4))⟩) (fun s6 (σ6 : vS) hh6 fr6 tt6 => ?_)
                  have T6 : cT x (qadv x (qJoin 1 (qlk x 12 (S.2.1 2) (qadv x S)) (qlk x 12 ((qadv x S).2.1 2) (qadv x (qadv x S))) (qadv x (qadv x S)))).1 σ6 := cT_nextS (S := (qJoin 1 (qlk x 12 (S.2.1 2) (qadv x S)) (qlk x 12 ((qadv x S).2.1 2) (qadv x (qadv x S))) (qadv x (qadv x S)))) (cT_t (cT_t (cT_t (cT_t T3 (by decide)) (by decide)) (by decide)) (by decide)) (kw_n (qlk_n o4)) hh6 fr6 tt6
                  have B6 : cTb (qadv x (qJoin 1 (qlk x 12 (S.2.1 2) (qadv x S)) (qlk x 12 ((qadv x S).2.1 2) (qadv x (qadv x S))) (qadv x (qadv x S)))) σ6 := cTb_a (cTb_fr Bw6 fr6.1)
                  refine And.intro (show 0 ≤ 1 ∧ 1 ≤ 1 from by omega) ?_
                  simp only [qadv_2] at jq
                  exact cRs_d hK (S := (qadv x (qJoin 1 (qlk x 12 (S.2.1 2) (qadv x S)) (qlk x 12 ((qadv x S).2.1 2) (qadv x (qadv x S))) (qadv x (qadv x S))))) (by unfold qPas; exact (if_neg (by have := hB.2.1.1; omega)).trans ((qtn_k (show 0 ≤ (qlk x 12 (S.2.1 2) (qadv x S)) from o2)).trans ((qtn_k (show 0 ≤ (qlk x 12 ((qadv x S).2.1 2) (qadv x (qadv x S))) from o4)).trans (if_neg (show ¬ ((qlk x 12 (S.2.1 2) (qadv x S)) = (qlk x 12 ((qadv x S).2.1 2) (qadv x (qadv x S))) ∨ qjn (qadv x (qadv x S)).2.1 (qlk x 12 (S.2.1 2) (qadv x S)) (qlk x 12 ((qadv x S).2.1 2) (qadv x (qadv x S))) ((qadv x (qadv x S)).2.1 3).toNat = true) from fun z => by rcases z with z | z; omega; simp only [qadv_2] at z; exact jq z))))) T6 B6
      · refine And.intro (cT_fl hT (by omega)) ?_
        refine And.intro (show 0 ≤ 0 ∧ 0 ≤ 1 from by omega) ?_
        exact cRs_f hK (S := S) (k := 4) (by unfold qPas; exact if_pos (by have := hB.2.1.1; omega)) (by decide) (cFl_of hT)
  · exact absurd h id
set_option maxRecDepth 8192 in
theorem vk_98 (X : zX gKX E) (B : zB E) : zOKC E md72 w 98 vs98 := by
  intro q hq vs σ K h
  cases (show gMT 98 = some (gm_98, 3) from rfl).symm.trans hq
  unfold vs98 at h
  split at h
  · rename_i sort
    show zGC E md72 w gm_98 0 [(0, .inr (.inl 9)), (1, .inr (.inl 7)), (2, .inl sort)] σ K
    obtain ⟨hs, x, S, hT, k4, hB, hS, hK0, hK1, hK2⟩ := h
    have hH : cHn S := ⟨hS.2.1, hS.2.2.1, hS.2.2.2.1⟩
    have hS0 := hS.2.1; have hS1 := hS.2.2.1; have hS2 := hS.2.2.2.1; have hS3 := hS.2.2.2.2.1
    have g0 : σ 79 0 = S.2.1 0 := hB.1.1.1
    have g1 : σ 79 1 = S.2.1 1 := hB.1.1.2.1
    have g2 : σ 79 2 = S.2.1 2 := hB.1.1.2.2
    rcases hs with rfl | rfl | rfl
    · refine zbdC (fun hb => zgoC X B (vL3_ok X B) [] [] (fun m => false) (by decide +kernel) ?_)
      refine And.intro (fun (q : 0 < 0) => absurd q (by decide)) (fun _ => ?_)
      refine And.intro (fun (q : 3 ≤ 0) => absurd q (by decide)) (fun _ => ?_)
      refine And.intro (show 0 ≤ 1 ∧ 1 ≤ 1 from by omega) ?_
      refine And.intro (fun (q : 1 = 0) => absurd q (by decide)) (fun _ => ?_)
      refine And.intro (show 0 ≤ 0 ∧ 0 < 3 from by omega) ?_
      have f1 : 0 ≤ σ 79 0 ∧ σ 79 0 ≤ 6 := zbC hb (t := 79) (a := 0) (n := 2) (i := 0) (by decide +kernel) (by omega) (by omega)
      refine And.intro (fun (q : ¬ 0 = 0) => absurd q (by decide)) (fun _ => ?_)
      refine And.intro (fun (c2 : (σ 79 0) < 6) => ?_) (fun (c3 : 6 ≤ (σ 79 0)) => ?_)
      · refine And.intro (show 0 ≤ 0 ∧ 0 ≤ 1 from by omega) ?_
        refine And.intro (fun _ => ?_) (fun (q : ¬ 0 = 0) => absurd q (by decide))
        refine And.intro (cT_nx ⟨hT, k4⟩) (fun s1 (σ1 : vS) hh1 fr1 tt1 => ?_)
        have T1 : cT x (qadv x S).1 σ1 := cT_nextS (S := S) hT k4 hh1 fr1 tt1
        have B1 : cTb (qadv x S) σ1 := cTb_a (cTb_fr hB fr1.1)
        refine And.intro (fun (c4 : (σ1 7 4) = 3) => ?_) (fun (c5 : ¬ (σ1 7 4) = 3) => ?_)
        · have hn : qnmp x (qadv x S).1 = true := (cT_k T1).2.mp (by omega)
          have gg0 : σ1 79 0 = S.2.1 0 := by have := B1.1.1.1; simp only [qadv_2] at this; exact this
          have gg1 : σ1 79 1 = S.2.1 1 := by have := B1.1.1.2.1; simp only [qadv_2] at this; exact this
          have gg2 : σ1 79 2 = S.2.1 2 := by have := B1.1.1.2.2; simp only [qadv_2] at this; exact this
          refine ⟨x, (qadv x S), T1, B1.1, cHn_a hH, hn, rfl, fun et => ?_, fun et => ?_⟩
          · refine And.intro (fun (q : 1 = 0) => absurd q (by decide)) (fun _ => ?_)
            refine And.intro (cT_fl T1 (by omega)) ?_
            refine And.intro (show 0 ≤ 0 ∧ 0 ≤ 1 from by omega) ?_
            have er : qfr x (0 + S.2.1 0) (qadv x S) = (3, (qadv x S)) := (if_pos hn).trans (if_pos et)
            exact cRs_f (hK0 rfl) (S := (qadv x S)) (k := 3) (by unfold qNew; exact (if_neg (by omega)).trans (by rw [er]; rfl)) (by decide) (cFl_of T1)
          · refine And.intro (fun _ => ?_) (fun (q : ¬ 0 = 0) => absurd q (by decide))
            refine And.intro (fun (q : 0 < 0) => absurd q (by decide)) (fun _ => ?_)
            refine And.intro (fun (q : 3 ≤ 0) => absurd q (by decide)) (fun _ => ?_)
            refine And.intro (show 0 ≤ 1 ∧ 1 ≤ 1 from by omega) ?_
            refine And.intro (fun (q : 1 = 0) => absurd q (by decide)) (fun _ => ?_)
            refine And.intro (fun (q : 0 < 0) => absurd q (by decide)) (fun _ => ?_)
            refine And.intro (fun (q : 3 ≤ 0) => absurd q (by decide)) (fun _ => ?_)
            refine And.intro (show 0 ≤ 1 ∧ 1 ≤ 1 from by omega) ?_
            refine And.intro (fun (q : 1 = 0) => absurd q (by decide)) (fun _ => ?_)
            refine And.intro (show 0 ≤ 0 ∧ 0 < 3 from by omega) ?_
            refine And.intro (fun (q : ¬ 0 = 0) => absurd q (by decide)) (fun _ => ?_)
            refine And.intro (fun (c6 : (σ1 79 0) < 6) => ?_) (fun (c7 : 6 ≤ (σ1 79 0)) => ?_)
            · refine And.intro (show 0 ≤ 0 ∧ 0 ≤ 1 from by omega) ?_
              refine And.intro (fun (q : ¬ 0 = 0) => absurd q (by decide)) (fun _ => ?_)
              refine And.intro (fun (q : ¬ 0 = 0) => absurd q (by decide)) (fun _ => ?_)
              refine And.intro (show 0 ≤ 0 ∧ 0 < 3 from by omega) ?_
              refine And.intro (show 0 ≤ (σ1 79 0) ∧ (σ1 79 0) < 6 from by omega) ?_
              refine And.intro (show 0 ≤ 0 ∧ 0 < 3 from by omega) ?_
              refine And.intro (show -2147483648 ≤ ((σ1 79 0) + 1) ∧ ((σ1 79 0) + 1) ≤ 2147483647 from by omega) ?_
              refine And.intro (show 0 ≤ 0 ∧ 0 < 3 from by omega) ?_
              refine And.intro (show vRg zr79 0 ((σ1 79 0) + 1) from rg79 (by omega)) ?_
              have Bw2 : cTb (((qadv x S).1, qup (qadv x S).2.1 0 ((qadv x S).2.1 0 + 1), qup (qadv x S).2.2 (0 + (qadv x S).2.1 0) (qwd x.1 x.2.1 (qadv x S).1)) : qS) (vup (vup σ1 80 (σ1 79 0) (σ1 7 7)) 79 0 ((σ1 79 0) + 1)) := (by
                                        have e0 : σ1 79 0 = (qadv x S).2.1 0 := B1.1.1.1
                                        rw [e0]
                                        exact cTb_tell (k := 0) (S := (qadv x S)) (cHn_a hH) B1 (by decide) (cT_w T1 hn).1 (cT_w T1 hn).2 (by show ¬ (qadv x S).2.1 0 = 6; simp only [qadv_2]; omega))
              refine And.intro (cT_nx ⟨(cT_t (cT_t T1 (by decide)) (by decide)), (kw_n hn)⟩) (fun s2 (σ2 : vS) hh2 fr2 tt2 => ?_)
              have T2 : cT x (qadv x (((qadv x S).1, qup (qadv x S).2.1 0 ((qadv x S).2.1 0 + 1), qup (qadv x S).2.2 (0 + (qadv x S).2.1 0) (qwd x.1 x.2.1 (qadv x S).1)) : qS)).1 σ2 := cT_nextS (S := (((qadv x S).1, qup (qadv x S).2.1 0 ((qadv x S).2.1 0 + 1), qup (qadv x S).2.2 (0 + (qadv x S).2.1 0) (qwd x.1 x.2.1 (qadv x S).1)) : qS)) (cT_t (cT_t T1 (by decide)) (by decide)) (kw_n hn) hh2 fr2 tt2
              have B2 : cTb (qadv x (((qadv x S).1, qup (qadv x S).2.1 0 ((qadv x S).2.1 0 + 1), qup (qadv x S).2.2 (0 + (qadv x S).2.1 0) (qwd x.1 x.2.1 (qadv x S).1)) : qS)) σ2 := cTb_a (cTb_fr Bw2 fr2.1)
              refine And.intro (show 0 ≤ 1 ∧ 1 ≤ 1 from by omega) ?_
              have er : qfr x (0 + S.2.1 0) (qadv x S) = (0, qadv x ((qadv x S).1, (qadv x S).2.1, qup (qadv x S).2.2 (0 + S.2.1 0) (qwd x.1 x.2.1 (qadv x S).1))) := (if_pos hn).trans (if_neg (by rw [et]; exact Bool.false_ne_true))
              exact cRs_d (hK0 rfl) (S := (qadv x (((qadv x S).1, qup (qadv x S).2.1 0 ((qadv x S).2.1 0 + 1), qup (qadv x S).2.2 (0 + (qadv x S).2.1 0) (qwd x.1 x.2.1 (qadv x S).1)) : qS))) (by unfold qNew; exact (if_neg (by omega)).trans (by rw [er]; unfold qbd qinc qadv; rfl)) T2 B2
            · refine And.intro (show 0 ≤ 1 ∧ 1 ≤ 1 from by omega) ?_
              refine And.intro (fun _ => ?_) (fun (q : 1 = 0) => absurd q (by decide))
              refine And.intro (cT_nx ⟨T1, (kw_n hn)⟩) (fun s3 (σ3 : vS) hh3 fr3 tt3 => ?_)
              have T3 : cT x (qadv x (qadv x S)).1 σ3 := cT_nextS (S := (qadv x S)) T1 (kw_n hn) hh3 fr3 tt3
              have B3 : cTb (qadv x (qadv x S)) σ3 := cTb_a (cTb_fr B1 fr3.1)
              refine And.intro (show 0 ≤ 1 ∧ 1 ≤ 1 from by omega) ?_
              exfalso; omega
        · refine And.intro (cT_fl T1 (by omega)) ?_
          refine And.intro (show 0 ≤ 0 ∧ 0 ≤ 1 from by omega) ?_
          have er : qfr x (0 + S.2.1 0) (qadv x S) = (1, (qadv x S)) := if_neg (fun z => by have := (cT_k T1).2.mpr z; omega)
          exact cRs_f (hK0 rfl) (S := (qadv x S)) (k := 1) (by unfold qNew; exact (if_neg (by omega)).trans (by rw [er]; rfl)) (by decide) (cFl_of T1)
      · refine And.intro (show 0 ≤ 1 ∧ 1 ≤ 1 from by omega) ?_
        refine And.intro (fun (q : 1 = 0) => absurd q (by decide)) (fun _ => ?_)
        refine And.intro (cT_fl hT (by omega)) ?_
        refine And.intro (show 0 ≤ 0 ∧ 0 ≤ 1 from by omega) ?_
        exact cRs_f (hK0 rfl) (S := S) (k := 4) (by unfold qNew; exact if_pos (by omega)) (by decide) (cFl_of hT)
    · refine zbdC (fun hb => zgoC X B (vL3_ok X B) [] [] (fun m => false) (by decide +kernel) ?_)
      refine And.intro (fun (q : 1 < 0) => absurd q (by decide)) (fun _ => ?_)
      refine And.intro (fun (q : 3 ≤ 1) => absurd q (by decide)) (fun _ => ?_)
      refine And.intro (show 0 ≤ 1 ∧ 1 ≤ 1 from by omega) ?_
      refine And.intro (fun (q : 1 = 0) => absurd q (by decide)) (fun _ => ?_)
      refine And.intro (show 0 ≤ 1 ∧ 1 < 3 from by omega) ?_
      have f1 : 0 ≤ σ 79 1 ∧ σ 79 1 ≤ 6 := zbC hb (t := 79) (a := 0) (n := 2) (i := 1) (by decide +kernel) (by omega) (by omega)
      refine And.intro (fun _ => ?_) (fun (q : 1 = 0) => absurd q (by decide))
      refine And.intro (fun (q : ¬ 1 = 1) => absurd q (by decide)) (fun _ => ?_)
      refine And.intro (fun (c2 : (σ 79 1) < 6) => ?_) (fun (c3 : 6 ≤ (σ 79 1)) => ?_)
      · refine And.intro (show 0 ≤ 0 ∧ 0 ≤ 1 from by omega) ?_
        refine And.intro (fun _ => ?_) (fun (q : ¬ 0 = 0) => absurd q (by decide))
        refine And.intro (cT_nx ⟨hT, k4⟩) (fun s1 (σ1 : vS) hh1 fr1 tt1 => ?_)
        have T1 : cT x (qadv x S).1 σ1 := cT_nextS (S := S) hT k4 hh1 fr1 tt1
        have B1 : cTb (qadv x S) σ1 := cTb_a (cTb_fr hB fr1.1)
        refine And.intro (fun (c4 : (σ1 7 4) = 3) => ?_) (fun (c5 : ¬ (σ1 7 4) = 3) => ?_)
        · have hn : qnmp x (qadv x S).1 = true := (cT_k T1).2.mp (by omega)
          have gg0 : σ1 79 0 = S.2.1 0 := by have := B1.1.1.1; simp only [qadv_2] at this; exact this
          have gg1 : σ1 79 1 = S.2.1 1 := by have := B1.1.1.2.1; simp only [qadv_2] at this; exact this
          have gg2 : σ1 79 2 = S.2.1 2 := by have := B1.1.1.2.2; simp only [qadv_2] at this; exact this
          refine ⟨x, (qadv x S), T1, B1.1, cHn_a hH, hn, rfl, fun et => ?_, fun et => ?_⟩
          · refine And.intro (fun (q : 1 = 0) => absurd q (by decide)) (fun _ => ?_)
            refine And.intro (cT_fl T1 (by omega)) ?_
            refine And.intro (show 0 ≤ 0 ∧ 0 ≤ 1 from by omega) ?_
            have er : qfr x (6 + S.2.1 1) (qadv x S) = (3, (qadv x S)) := (if_pos hn).trans (if_pos et)
            exact cRs_f (hK1 rfl) (S := (qadv x S)) (k := 3) (by unfold qNew; exact (if_neg (by omega)).trans (by rw [er]; rfl)) (by decide) (cFl_of T1)
          · refine And.intro (fun _ => ?_) (fun (q : ¬ 0 = 0) => absurd q (by decide))
            refine And.intro (fun (q : 1 < 0) => absurd q (by decide)) (fun _ => ?_)
            refine And.intro (fun (q : 3 ≤ 1) => absurd q (by decide)) (fun _ => ?_)
            refine And.intro (show 0 ≤ 1 ∧ 1 ≤ 1 from by omega) ?_
            refine And.intro (fun (q : 1 = 0) => absurd q (by decide)) (fun _ => ?_)
            refine And.intro (fun (q : 1 < 0) => absurd q (by decide)) (fun _ => ?_)
            refine And.intro (fun (q : 3 ≤ 1) => absurd q (by decide)) (fun _ => ?_)
            refine And.intro (show 0 ≤ 1 ∧ 1 ≤ 1 from by omega) ?_
            refine And.intro (fun (q : 1 = 0) => absurd q (by decide)) (fun _ => ?_)
            refine And.intro (show 0 ≤ 1 ∧ 1 < 3 from by omega) ?_
            refine And.intro (fun _ => ?_) (fun (q : 1 = 0) => absurd q (by decide))
            refine And.intro (fun (q : ¬ 1 = 1) => absurd q (by decide)) (fun _ => ?_)
            refine And.intro (fun (c6 : (σ1 79 1) < 6) => ?_) (fun (c7 : 6 ≤ (σ1 79 1)) => ?_)
            · refine And.intro (show 0 ≤ 0 ∧ 0 ≤ 1 from by omega) ?_
              refine And.intro (fun (q : ¬ 0 = 0) => absurd q (by decide)) (fun _ => ?_)
              refine And.intro (fun _ => ?_) (fun (q : 1 = 0) => absurd q (by decide))
              refine And.intro (fun (q : ¬ 1 = 1) => absurd q (by decide)) (fun _ => ?_)
              refine And.intro (show 0 ≤ 1 ∧ 1 < 3 from by omega) ?_
              refine And.intro (show 0 ≤ (σ1 79 1) ∧ (σ1 79 1) < 6 from by omega) ?_
              refine And.intro (show 0 ≤ 1 ∧ 1 < 3 from by omega) ?_
              refine And.intro (show -2147483648 ≤ ((σ1 79 1) + 1) ∧ ((σ1 79 1) + 1) ≤ 2147483647 from by omega) ?_
              refine And.intro (show 0 ≤ 1 ∧ 1 < 3 from by omega) ?_
              refine And.intro (show vRg zr79 1 ((σ1 79 1) + 1) from rg79 (by omega)) ?_
              have Bw2 : cTb (((qadv x S).1, qup (qadv x S).2.1 1 ((qadv x S).2.1 1 + 1), qup (qadv x S).2.2 (6 + (qadv x S).2.1 1) (qwd x.1 x.2.1 (qadv x S).1)) : qS) (vup (vup σ1 81 (σ1 79 1) (σ1 7 7)) 79 1 ((σ1 79 1) + 1)) := (by
                                        have e0 : σ1 79 1 = (qadv x S).2.1 1 := B1.1.1.2.1
                                        rw [e0]
                                        exact cTb_tell (k := 1) (S := (qadv x S)) (cHn_a hH) B1 (by decide) (cT_w T1 hn).1 (cT_w T1 hn).2 (by show ¬ (qadv x S).2.1 1 = 6; simp only [qadv_2]; omega))
              refine And.intro (cT_nx ⟨(cT_t (cT_t T1 (by decide)) (by decide)), (kw_n hn)⟩) (fun s2 (σ2 : vS) hh2 fr2 tt2 => ?_)
              have T2 : cT x (qadv x (((qadv x S).1, qup (qadv x S).2.1 1 ((qadv x S).2.1 1 + 1), qup (qadv x S).2.2 (6 + (qadv x S).2.1 1) (qwd x.1 x.2.1 (qadv x S).1)) : qS)).1 σ2 := cT_nextS (S := (((qadv x S).1, qup (qadv x S).2.1 1 ((qadv x S).2.1 1 + 1), qup (qadv x S).2.2 (6 + (qadv x S).2.1 1) (qwd x.1 x.2.1 (qadv x S).1)) : qS)) (cT_t (cT_t T1 (by decide)) (by decide)) (kw_n hn) hh2 fr2 tt2
              have B2 : cTb (qadv x (((qadv x S).1, qup (qadv x S).2.1 1 ((qadv x S).2.1 1 + 1), qup (qadv x S).2.2 (6 + (qadv x S).2.1 1) (qwd x.1 x.2.1 (qadv x S).1)) : qS)) σ2 := cTb_a (cTb_fr Bw2 fr2.1)
              refine And.intro (show 0 ≤ 1 ∧ 1 ≤ 1 from by omega) ?_
              have er : qfr x (6 + S.2.1 1) (qadv x S) = (0, qadv x ((qadv x S).1, (qadv x S).2.1, qup (qadv x S).2.2 (6 + S.2.1 1) (qwd x.1 x.2.1 (qadv x S).1))) := (if_pos hn).trans (if_neg (by rw [et]; exact Bool.false_ne_true))
              exact cRs_d (hK1 rfl) (S := (qadv x (((qadv x S).1, qup (qadv x S).2.1 1 ((qadv x S).2.1 1 + 1), qup (qadv x S).2.2 (6 + (qadv x S).2.1 1) (qwd x.1 x.2.1 (qadv x S).1)) : qS))) (by unfold qNew; exact (if_neg (by omega)).trans (by rw [er]; unfold qbd qinc qadv; rfl)) T2 B2
            · refine And.intro (show 0 ≤ 1 ∧ 1 ≤ 1 from by omega) ?_
              refine And.intro (fun _ => ?_) (fun (q : 1 = 0) => absurd q (by decide))
              refine And.intro (cT_nx ⟨T1, (kw_n hn)⟩) (fun s3 (σ3 : vS) hh3 fr3 tt3 => ?_)
              have T3 : cT x (qadv x (qadv x S)).1 σ3 := cT_nextS (S := (qadv x S)) T1 (kw_n hn) hh3 fr3 tt3
              have B3 : cTb (qadv x (qadv x S)) σ3 := cTb_a (cTb_fr B1 fr3.1)
              refine And.intro (show 0 ≤ 1 ∧ 1 ≤ 1 from by omega) ?_
              exfalso; omega
        · refine And.intro (cT_fl T1 (by omega)) ?_
          refine And.intro (show 0 ≤ 0 ∧ 0 ≤ 1 from by omega) ?_
          have er : qfr x (6 + S.2.1 1) (qadv x S) = (1, (qadv x S)) := if_neg (fun z => by have := (cT_k T1).2.mpr z; omega)
          exact cRs_f (hK1 rfl) (S := (qadv x S)) (k := 1) (by unfold qNew; exact (if_neg (by omega)).trans (by rw [er]; rfl)) (by decide) (cFl_of T1)
      · refine And.intro (show 0 ≤ 1 ∧ 1 ≤ 1 from by omega) ?_
        refine And.intro (fun (q : 1 = 0) => absurd q (by decide)) (fun _ => ?_)
        refine And.intro (cT_fl hT (by omega)) ?_
        refine And.intro (show 0 ≤ 0 ∧ 0 ≤ 1 from by omega) ?_
        exact cRs_f (hK1 rfl) (S := S) (k := 4) (by unfold qNew; exact if_pos (by omega)) (by decide) (cFl_of hT)
    · refine zbdC (fun hb => zgoC X B (vL3_ok X B) [] [] (fun m => false) (by decide +kernel) ?_)
      refine And.intro (fun (q : 2 < 0) => absurd q (by decide)) (fun _ => ?_)
      refine And.intro (fun (q : 3 ≤ 2) => absurd q (by decide)) (fun _ => ?_)
      refine And.intro (show 0 ≤ 1 ∧ 1 ≤ 1 from by omega) ?_
      refine And.intro (fun (q : 1 = 0) => absurd q (by decide)) (fun _ => ?_)
      refine And.intro (show 0 ≤ 2 ∧ 2 < 3 from by omega) ?_
      have f1 : 0 ≤ σ 79 2 ∧ σ 79 2 ≤ 12 := zbC hb (t := 79) (a := 2) (n := 3) (i := 2) (by decide +kernel) (by omega) (by omega)
      refine And.intro (fun _ => ?_) (fun (q : 2 = 0) => absurd q (by decide))
      refine And.intro (fun _ => ?_) (fun (q : 2 = 1) => absurd q (by decide))
      refine And.intro (fun (c2 : (σ 79 2) < 12) => ?_) (fun (c3 : 12 ≤ (σ 79 2)) => ?_)
      · refine And.intro (show 0 ≤ 0 ∧ 0 ≤ 1 from by omega) ?_
        refine And.intro (fun _ => ?_) (fun (q : ¬ 0 = 0) => absurd q (by decide))
        refine And.intro (cT_nx ⟨hT, k4⟩) (fun s1 (σ1 : vS) hh1 fr1 tt1 => ?_)
        have T1 : cT x (qadv x S).1 σ1 := cT_nextS (S := S) hT k4 hh1 fr1 tt1
        have B1 : cTb (qadv x S) σ1 := cTb_a (cTb_fr hB fr1.1)
        refine And.intro (fun (c4 : (σ1 7 4) = 3) => ?_) (fun (c5 : ¬ (σ1 7 4) = 3) => ?_)
        · have hn : qnmp x (qadv x S).1 = true := (cT_k T1).2.mp (by omega)
          have gg0 : σ1 79 0 = S.2.1 0 := by have := B1.1.1.1; simp only [qadv_2] at this; exact this
          have gg1 : σ1 79 1 = S.2.1 1 := by have := B1.1.1.2.1; simp only [qadv_2] at this; exact this
          have gg2 : σ1 79 2 = S.2.1 2 := by have := B1.1.1.2.2; simp only [qadv_2] at this; exact this
          refine ⟨x, (qadv x S), T1, B1.1, cHn_a hH, hn, rfl, fun et => ?_, fun et => ?_⟩
          · refine And.intro (fun (q : 1 = 0) => absurd q (by decide)) (fun _ => ?_)
            refine And.intro (cT_fl T1 (by omega)) ?_
            refine And.intro (show 0 ≤ 0 ∧ 0 ≤ 1 from by omega) ?_
            have er : qfr x (12 + S.2.1 2) (qadv x S) = (3, (qadv x S)) := (if_pos hn).trans (if_pos et)
            exact cRs_f (hK2 rfl) (S := (qadv x S)) (k := 3) (by unfold qNew; exact (if_neg (by omega)).trans (by rw [er]; rfl)) (by decide) (cFl_of T1)
          · refine And.intro (fun _ => ?_) (fun (q : ¬ 0 = 0) => absurd q (by decide))
            refine And.intro (fun (q : 2 < 0) => absurd q (by decide)) (fun _ => ?_)
            refine And.intro (fun (q : 3 ≤ 2) => absurd q (by decide)) (fun _ => ?_)
            refine And.intro (show 0 ≤ 1 ∧ 1 ≤ 1 from by omega) ?_
            refine And.intro (fun (q : 1 = 0) => absurd q (by decide)) (fun _ => ?_)
            refine And.intro (fun (q : 2 < 0) => absurd q (by decide)) (fun _ => ?_)
            refine And.intro (fun (q : 3 ≤ 2) => absurd q (by decide)) (fun _ => ?_)
            refine And.intro (show 0 ≤ 1 ∧ 1 ≤ 1 from by omega) ?_
            refine And.intro (fun (q : 1 = 0) => absurd q (by decide)) (fun _ => ?_)
            refine And.intro (show 0 ≤ 2 ∧ 2 < 3 from by omega) ?_
            refine And.intro (fun _ => ?_) (fun (q : 2 = 0) => absurd q (by decide))
            refine And.intro (fun _ => ?_) (fun (q : 2 = 1) => absurd q (by decide))
            refine And.intro (fun (c6 : (σ1 79 2) < 12) => ?_) (fun (c7 : 12 ≤ (σ1 79 2)) => ?_)
            · refine And.intro (show 0 ≤ 0 ∧ 0 ≤ 1 from by omega) ?_
              refine And.intro (fun (q : ¬ 0 = 0) => absurd q (by decide)) (fun _ => ?_)
              refine And.intro (fun _ => ?_) (fun (q : 2 = 0) => absurd q (by decide))
              refine And.intro (fun _ => ?_) (fun (q : 2 = 1) => absurd q (by decide))
              refine And.intro (show 0 ≤ 2 ∧ 2 < 3 from by omega) ?_
              refine And.intro (show 0 ≤ (σ1 79 2) ∧ (σ1 79 2) < 12 from by omega) ?_
              refine And.intro (show 0 ≤ 2 ∧ 2 < 3 from by omega) ?_
              refine And.intro (show -2147483648 ≤ ((σ1 79 2) + 1) ∧ ((σ1 79 2) + 1) ≤ 2147483647 from by omega) ?_
              refine And.intro (show 0 ≤ 2 ∧ 2 < 3 from by omega) ?_
              refine And.intro (show vRg zr79 2 ((σ1 79 2) + 1) from rg79 (by omega)) ?_
              have Bw2 : cTb (((qadv x S).1, qup (qadv x S).2.1 2 ((qadv x S).2.1 2 + 1), qup (qadv x S).2.2 (12 + (qadv x S).2.1 2) (qwd x.1 x.2.1 (qadv x S).1)) : qS) (vup (vup σ1 82 (σ1 79 2) (σ1 7 7)) 79 2 ((σ1 79 2) + 1)) := (by
                                        have e0 : σ1 79 2 = (qadv x S).2.1 2 := B1.1.1.2.2
                                        rw [e0]
                                        exact cTb_tell (k := 2) (S := (qadv x S)) (cHn_a hH) B1 (by decide) (cT_w T1 hn).1 (cT_w T1 hn).2 (by show ¬ (qadv x S).2.1 2 = 12; simp only [qadv_2]; omega))
              refine And.intro (cT_nx ⟨(cT_t (cT_t T1 (by decide)) (by decide)), (kw_n hn)⟩) (fun s2 (σ2 : vS) hh2 fr2 tt2 => ?_)
              have T2 : cT x (qadv x (((qadv x S).1, qup (qadv x S).2.1 2 ((qadv x S).2.1 2 + 1), qup (qadv x S).2.2 (12 + (qadv x S).2.1 2) (qwd x.1 x.2.1 (qadv x S).1)) : qS)).1 σ2 := cT_nextS (S := (((qadv x S).1, qup (qadv x S).2.1 2 ((qadv x S).2.1 2 + 1), qup (qadv x S).2.2 (12 + (qadv x S).2.1 2) (qwd x.1 x.2.1 (qadv x S).1)) : qS)) (cT_t (cT_t T1 (by decide)) (by decide)) (kw_n hn) hh2 fr2 tt2
              have B2 : cTb (qadv x (((qadv x S).1, qup (qadv x S).2.1 2 ((qadv x S).2.1 2 + 1), qup (qadv x S).2.2 (12 + (qadv x S).2.1 2) (qwd x.1 x.2.1 (qadv x S).1)) : qS)) σ2 := cTb_a (cTb_fr Bw2 fr2.1)
              refine And.intro (show 0 ≤ 1 ∧ 1 ≤ 1 from by omega) ?_
              have er : qfr x (12 + S.2.1 2) (qadv x S) = (0, qadv x ((qadv x S).1, (qadv x S).2.1, qup (qadv x S).2.2 (12 + S.2.1 2) (qwd x.1 x.2.1 (qadv x S).1))) := (if_pos hn).trans (if_neg (by rw [et]; exact Bool.false_ne_true))
              exact cRs_d (hK2 rfl) (S := (qadv x (((qadv x S).1, qup (qadv x S).2.1 2 ((qadv x S).2.1 2 + 1), qup (qadv x S).2.2 (12 + (qadv x S).2.1 2) (qwd x.1 x.2.1 (qadv x S).1)) : qS))) (by unfold qNew; exact (if_neg (by omega)).trans (by rw [er]; unfold qbd qinc qadv; rfl)) T2 B2
            · refine And.intro (show 0 ≤ 1 ∧ 1 ≤ 1 from by omega) ?_
              refine And.intro (fun _ => ?_) (fun (q : 1 = 0) => absurd q (by decide))
              refine And.intro (cT_nx ⟨T1, (kw_n hn)⟩) (fun s3 (σ3 : vS) hh3 fr3 tt3 => ?_)
              have T3 : cT x (qadv x (qadv x S)).1 σ3 := cT_nextS (S := (qadv x S)) T1 (kw_n hn) hh3 fr3 tt3
              have B3 : cTb (qadv x (qadv x S)) σ3 := cTb_a (cTb_fr B1 fr3.1)
              refine And.intro (show 0 ≤ 1 ∧ 1 ≤ 1 from by omega) ?_
              exfalso; omega
        · refine And.intro (cT_fl T1 (by omega)) ?_
          refine And.intro (show 0 ≤ 0 ∧ 0 ≤ 1 from by omega) ?_
          have er : qfr x (12 + S.2.1 2) (qadv x S) = (1, (qadv x S)) := if_neg (fun z => by have := (cT_k T1).2.mpr z; omega)
          exact cRs_f (hK2 rfl) (S := (qadv x S)) (k := 1) (by unfold qNew; exact (if_neg (by omega)).trans (by rw [er]; rfl)) (by decide) (cFl_of T1)
      · refine And.intro (show 0 ≤ 1 ∧ 1 ≤ 1 from by omega) ?_
        refine And.intro (fun (q : 1 = 0) => absurd q (by decide)) (fun _ => ?_)
        refine And.intro (cT_fl hT (by omega)) ?_
        refine And.intro (show 0 ≤ 0 ∧ 0 ≤ 1 from by omega) ?_
        exact cRs_f (hK2 rfl) (S := S) (k := 4) (by unfold qNew; exact if_pos (by omega)) (by decide) (cFl_of hT)
  · exact absurd h id
end ZV4
