/-! THE CLASS READS A TERRACE: the LINES, sort by sort. -/
noncomputable section
def qHO (x : qX) (S : qS) : qR := qtn x 0 (S.2.1 0) S fun _ S => qtn x 6 (S.2.1 1) (qadv x S) fun _ S => (0, qadv x S)
def kw1 (x : qX) (S : qS) : Prop := ¬ qkd x.1 x.2.1 x.2.2 S.1 = 0 ∧ ¬ qkd x.1 x.2.1 x.2.2 S.1 = 4
def vs98 : vSpL := fun vs σ K => match vs with
  | [.inr (.inl 9), .inr (.inl 7), .inl sort] => (sort = 0 ∨ sort = 1 ∨ sort = 2) ∧ ∃ x S, cT x S.1 σ ∧ kw1 x S ∧ cTb S σ ∧ qSb x S ∧ (sort = 0 → cRs x (qNew x 0 0 6 S) K) ∧ (sort = 1 → cRs x (qNew x 1 6 6 S) K) ∧ (sort = 2 → cRs x (qNew x 2 12 12 S) K)
  | _ => False
def vs95 : vSpL := fun vs σ K => match vs with
  | [.inr (.inl 9), .inr (.inl 7), .inl r] => (0 ≤ r ∧ r < 12) ∧ ∃ x S, cT x S.1 σ ∧ cTb S σ ∧ qSb x S ∧ cRs x (qHO x S) K
  | _ => False
def vs99 : vSpL := fun vs σ K => match vs with
  | [.inr (.inl 9), .inr (.inl 7), .inl robe] => (robe = 0 ∨ robe = 1) ∧ ∃ x S, cT x S.1 σ ∧ kw1 x S ∧ cTb S σ ∧ qSb x S ∧ cRs x (qPas x robe S) K
  | _ => False
def vs100 : vSpL := fun vs σ K => match vs with
  | [.inr (.inl 9), .inr (.inl 7)] => ∃ x S, cT x S.1 σ ∧ kw1 x S ∧ cTb S σ ∧ qSb x S ∧ cRs x (qAt x S) K
  | _ => False
def vs96 : vSpL := fun vs σ K => match vs with
  | [.inr (.inl 9), .inr (.inl 7)] => ∃ x S, cT x S.1 σ ∧ kw1 x S ∧ cTb S σ ∧ qSb x S ∧ cRs x (qLet x S) K
  | _ => False
def vs94 : vSpL := fun vs σ K => match vs with
  | [.inr (.inl 9), .inr (.inl 7)] => ∃ x S, cT x S.1 σ ∧ kw1 x S ∧ cTb S σ ∧ qSb x S ∧ cRs x (qHeir x S) K
  | _ => False
def vs97 : vSpL := fun vs σ K => match vs with
  | [.inr (.inl 9), .inr (.inl 7)] => ∃ x S, cT x S.1 σ ∧ kw1 x S ∧ cTb S σ ∧ qSb x S ∧ cRs x (qLike x S) K
  | _ => False
def vL3 : List (Nat × vSpL) := (75, vs75) :: (83, vs83) :: (77, vs77) :: (71, cs71) :: vL2
end
theorem kw_n {x : qX} {p : Int} (h : qnmp x p = true) : ¬ qkd x.1 x.2.1 x.2.2 p = 0 ∧ ¬ qkd x.1 x.2.1 x.2.2 p = 4 := by have := qnmp_k h; omega
theorem qadv_2 {x : qX} {S : qS} : (qadv x S).2 = S.2 := by unfold qadv; rfl
theorem cT_nextS {x : qX} {S : qS} {s : Int} {σ σ2 : vS} (h : cT x S.1 σ) (hk : ¬ qkd x.1 x.2.1 x.2.2 S.1 = 0 ∧ ¬ qkd x.1 x.2.1 x.2.2 S.1 = 4) (hs : s ≤ σ 7 1 ∧ s ≤ σ 7 9 ∧ (s = σ 7 1 ∨ s = σ 7 9)) (hf : cfr σ σ2) (ht : ctk (ctx σ) (σ 35) (σ 7 1) (σ 7 9) s (tE (fun q => tbk (ctx σ q)) s (σ 7 10)) σ2) : cT x (qadv x S).1 σ2 := by
  unfold qadv
  exact cT_next h hk hs hf ht
theorem cHn_a {x : qX} {S : qS} (h : cHn S) : cHn (qadv x S) := by
  unfold cHn at h ⊢
  rw [qadv_2]
  exact h
theorem cTb_a {x : qX} {S : qS} {σ : vS} (h : cTb S σ) : cTb (qadv x S) σ := by
  unfold cTb cRd at h ⊢
  rw [qadv_2]
  exact h
section ZV3
variable {E : zE} {w : va_W} {σ : vS} {K : vKL}
theorem vL3_ok (X : zX gKX E) (B : zB E) : zSC E md72 w vL3 := zS_consC (vk_75 X B) (zS_consC (vk_83 X B) (zS_consC (vk_77 X B) (zS_consC (ck_71 X B) (vL2_ok X B))))
set_option maxRecDepth 8192 in
theorem vk_95 (X : zX gKX E) (B : zB E) : zOKC E md72 w 95 vs95 := by
  intro q hq vs σ K h
  cases (show gMT 95 = some (gm_95, 5) from rfl).symm.trans hq
  unfold vs95 at h
  split at h
  · rename_i r
    show zGC E md72 w gm_95 0 [(0, .inr (.inl 9)), (1, .inr (.inl 7)), (2, .inl r)] σ K
    obtain ⟨hr, x, S, hT, hB, hS, hK⟩ := h
    have hH : cHn S := ⟨hS.2.1, hS.2.2.1, hS.2.2.2.1⟩
    have hS0 := hS.2.1; have hS1 := hS.2.2.1; have hS2 := hS.2.2.2.1; have hS3 := hS.2.2.2.2.1
    refine zbdC (fun hb => zgoC X B (vL3_ok X B) [] [] (fun m => false) (by decide +kernel) ?_)
    have em1 : (S.2.1 0) = S.2.1 0 := by simp only [qadv_2]
    have j1 : (qlk x 0 (S.2.1 0) S) < (S.2.1 0) := qlk_b (by omega)
    have jj1 : -3 ≤ (qlk x 0 (S.2.1 0) S) := qlk_m (by omega)
    refine ⟨by decide, x, S, (S.2.1 0), hT, hB.1, hH, fun _ => ⟨rfl, fun (o1 : (qlk x 0 (S.2.1 0) S) < 0) (σ1 : vS) (F1 : cFl x (-(qlk x 0 (S.2.1 0) S)) S.1 σ1) (G1 : cg σ σ1) => ?_, fun (o1 : 0 ≤ (qlk x 0 (S.2.1 0) S)) => ?_⟩, fun q => absurd q (by decide), fun q => absurd q (by decide)⟩
    · refine And.intro (fun _ => ?_) (fun (q : ¬ (-1) = (-1)) => absurd q (by decide))
      refine And.intro (show 0 ≤ 0 ∧ 0 ≤ 1 from by omega) ?_
      exact cRs_f hK (S := S) (k := -(qlk x 0 (S.2.1 0) S)) (by unfold qHO; exact qtn_f (show (qlk x 0 (S.2.1 0) S) < 0 from o1)) (by omega) F1
    · refine And.intro (fun (q : ((qlk x 0 (S.2.1 0) S)) = (-1)) => (by exfalso; omega)) (fun _ => ?_)
      refine And.intro (fun (c1 : r < 0) => ?_) (fun (c2 : 0 ≤ r) => ?_)
      · refine And.intro (show 0 ≤ 0 ∧ 0 ≤ 1 from by omega) ?_
        refine And.intro (fun (q : ¬ 0 = 0) => absurd q (by decide)) (fun _ => ?_)
        refine And.intro (show 0 ≤ 0 ∧ 0 ≤ 1 from by omega) ?_
        exfalso; omega
      · refine And.intro (fun (c3 : 12 ≤ r) => ?_) (fun (c4 : r < 12) => ?_)
        · refine And.intro (show 0 ≤ 0 ∧ 0 ≤ 1 from by omega) ?_
          refine And.intro (fun (q : ¬ 0 = 0) => absurd q (by decide)) (fun _ => ?_)
          refine And.intro (show 0 ≤ 0 ∧ 0 ≤ 1 from by omega) ?_
          exfalso; omega
        · refine And.intro (show 0 ≤ 1 ∧ 1 ≤ 1 from by omega) ?_
          refine And.intro (fun _ => ?_) (fun (q : 1 = 0) => absurd q (by decide))
          refine And.intro (show 0 ≤ r ∧ r < 12 from by omega) ?_
          refine And.intro (show 0 ≤ ((qlk x 0 (S.2.1 0) S)) ∧ ((qlk x 0 (S.2.1 0) S)) ≤ 5 from by omega) ?_
          have Bw2 : cTb S (vup σ 83 r ((qlk x 0 (S.2.1 0) S))) := (cTb_t hB (by decide))
          refine And.intro (cT_nx ⟨(cT_t hT (by decide)), (kw_n (qlk_n o1))⟩) (fun s2 (σ2 : vS) hh2 fr2 tt2 => ?_)
          have T2 : cT x (qadv x S).1 σ2 := cT_nextS (S := S) (cT_t hT (by decide)) (kw_n (qlk_n o1)) hh2 fr2 tt2
          have B2 : cTb (qadv x S) σ2 := cTb_a (cTb_fr Bw2 fr2.1)
          have em3 : (S.2.1 1) = S.2.1 1 := by simp only [qadv_2]
          have j3 : (qlk x 6 (S.2.1 1) (qadv x S)) < (S.2.1 1) := qlk_b (by omega)
          have jj3 : -3 ≤ (qlk x 6 (S.2.1 1) (qadv x S)) := qlk_m (by omega)
          refine ⟨by decide, x, (qadv x S), (S.2.1 1), T2, B2.1, (cHn_a hH), fun q => absurd q (by decide), fun _ => ⟨by simp only [qadv_2], fun (o3 : (qlk x 6 (S.2.1 1) (qadv x S)) < 0) (σ3 : vS) (F3 : cFl x (-(qlk x 6 (S.2.1 1) (qadv x S))) (qadv x S).1 σ3) (G3 : cg σ2 σ3) => ?_, fun (o3 : 0 ≤ (qlk x 6 (S.2.1 1) (qadv x S))) => ?_⟩, fun q => absurd q (by decide)⟩
          · refine And.intro (fun (q : ¬ (-1) = (-1)) => absurd q (by decide)) (fun _ => ?_)
            refine And.intro (show 0 ≤ 0 ∧ 0 ≤ 1 from by omega) ?_
            exact cRs_f hK (S := (qadv x S)) (k := -(qlk x 6 (S.2.1 1) (qadv x S))) (by unfold qHO; exact (qtn_k (show 0 ≤ (qlk x 0 (S.2.1 0) S) from o1)).trans (qtn_f (show (qlk x 6 (S.2.1 1) (qadv x S)) < 0 from o3))) (by omega) F3
          · refine And.intro (fun _ => ?_) (fun (q : ((qlk x 6 (S.2.1 1) (qadv x S))) = (-1)) => (by exfalso; omega))
            refine And.intro (show 0 ≤ r ∧ r < 12 from by omega) ?_
            refine And.intro (show Int.negSucc 0 ≤ ((qlk x 6 (S.2.1 1) (qadv x S))) ∧ ((qlk x 6 (S.2.1 1) (qadv x S))) ≤ 5 from rgm (by omega)) ?_
            have Bw4 : cTb (qadv x S) (vup σ2 88 r ((qlk x 6 (S.2.1 1) (qadv x S)))) := (cTb_t B2 (by decide))
            refine And.intro (cT_nx ⟨(cT_t T2 (by decide)), (kw_n (qlk_n o3))⟩) (fun s4 (σ4 : vS) hh4 fr4 tt4 => ?_)
            have T4 : cT x (qadv x (qadv x S)).1 σ4 := cT_nextS (S := (qadv x S)) (cT_t T2 (by decide)) (kw_n (qlk_n o3)) hh4 fr4 tt4
            have B4 : cTb (qadv x (qadv x S)) σ4 := cTb_a (cTb_fr Bw4 fr4.1)
            refine And.intro (show 0 ≤ 1 ∧ 1 ≤ 1 from by omega) ?_
            exact cRs_d hK (S := (qadv x (qadv x S))) (by unfold qHO; exact (qtn_k (show 0 ≤ (qlk x 0 (S.2.1 0) S) from o1)).trans (qtn_k (show 0 ≤ (qlk x 6 (S.2.1 1) (qadv x S)) from o3))) T4 B4
  · exact absurd h id
set_option maxRecDepth 8192 in
theorem vk_100 (X : zX gKX E) (B : zB E) : zOKC E md72 w 100 vs100 := by
  intro q hq vs σ K h
  cases (show gMT 100 = some (gm_100, 4) from rfl).symm.trans hq
  unfold vs100 at h
  split at h
  · skip
    show zGC E md72 w gm_100 0 [(0, .inr (.inl 9)), (1, .inr (.inl 7))] σ K
    obtain ⟨x, S, hT, k4, hB, hS, hK⟩ := h
    have hH : cHn S := ⟨hS.2.1, hS.2.2.1, hS.2.2.2.1⟩
    have hS0 := hS.2.1; have hS1 := hS.2.2.1; have hS2 := hS.2.2.2.1; have hS3 := hS.2.2.2.2.1
    refine zbdC (fun hb => zgoC X B (vL3_ok X B) [] [] (fun m => false) (by decide +kernel) ?_)
    refine And.intro (cT_nx ⟨hT, k4⟩) (fun s1 (σ1 : vS) hh1 fr1 tt1 => ?_)
    have T1 : cT x (qadv x S).1 σ1 := cT_nextS (S := S) hT k4 hh1 fr1 tt1
    have B1 : cTb (qadv x S) σ1 := cTb_a (cTb_fr hB fr1.1)
    have em2 : (S.2.1 1) = S.2.1 1 := by simp only [qadv_2]
    have j2 : (qlk x 6 (S.2.1 1) (qadv x S)) < (S.2.1 1) := qlk_b (by omega)
    have jj2 : -3 ≤ (qlk x 6 (S.2.1 1) (qadv x S)) := qlk_m (by omega)
    refine ⟨by decide, x, (qadv x S), (S.2.1 1), T1, B1.1, (cHn_a hH), fun q => absurd q (by decide), fun _ => ⟨by simp only [qadv_2], fun (o2 : (qlk x 6 (S.2.1 1) (qadv x S)) < 0) (σ2 : vS) (F2 : cFl x (-(qlk x 6 (S.2.1 1) (qadv x S))) (qadv x S).1 σ2) (G2 : cg σ1 σ2) => ?_, fun (o2 : 0 ≤ (qlk x 6 (S.2.1 1) (qadv x S))) => ?_⟩, fun q => absurd q (by decide)⟩
    · refine And.intro (fun (q : ¬ (-1) = (-1)) => absurd q (by decide)) (fun _ => ?_)
      refine And.intro (show 0 ≤ 0 ∧ 0 ≤ 1 from by omega) ?_
      exact cRs_f hK (S := (qadv x S)) (k := -(qlk x 6 (S.2.1 1) (qadv x S))) (by unfold qAt; exact qtn_f (show (qlk x 6 (S.2.1 1) (qadv x S)) < 0 from o2)) (by omega) F2
    · refine And.intro (fun _ => ?_) (fun (q : ((qlk x 6 (S.2.1 1) (qadv x S))) = (-1)) => (by exfalso; omega))
      refine And.intro (show 0 ≤ ((qlk x 6 (S.2.1 1) (qadv x S))) ∧ ((qlk x 6 (S.2.1 1) (qadv x S))) < 6 from by omega) ?_
      refine And.intro (fun (c1 : (σ1 89 ((qlk x 6 (S.2.1 1) (qadv x S)))) = (-1)) => ?_) (fun (c2 : ¬ (σ1 89 ((qlk x 6 (S.2.1 1) (qadv x S)))) = (-1)) => ?_)
      · refine And.intro (cT_nx ⟨T1, (kw_n (qlk_n o2))⟩) (fun s3 (σ3 : vS) hh3 fr3 tt3 => ?_)
        have T3 : cT x (qadv x (qadv x S)).1 σ3 := cT_nextS (S := (qadv x S)) T1 (kw_n (qlk_n o2)) hh3 fr3 tt3
        have B3 : cTb (qadv x (qadv x S)) σ3 := cTb_a (cTb_fr B1 fr3.1)
        have em4 : ((qadv x S).2.1 2) = S.2.1 2 := by simp only [qadv_2]
        have j4 : (qlk x 12 ((qadv x S).2.1 2) (qadv x (qadv x S))) < ((qadv x S).2.1 2) := qlk_b (by omega)
        have jj4 : -3 ≤ (qlk x 12 ((qadv x S).2.1 2) (qadv x (qadv x S))) := qlk_m (by omega)
        refine ⟨by decide, x, (qadv x (qadv x S)), ((qadv x S).2.1 2), T3, B3.1, (cHn_a (cHn_a hH)), fun q => absurd q (by decide), fun q => absurd q (by decide), fun _ => ⟨by simp only [qadv_2], fun (o4 : (qlk x 12 ((qadv x S).2.1 2) (qadv x (qadv x S))) < 0) (σ4 : vS) (F4 : cFl x (-(qlk x 12 ((qadv x S).2.1 2) (qadv x (qadv x S)))) (qadv x (qadv x S)).1 σ4) (G4 : cg σ3 σ4) => ?_, fun (o4 : 0 ≤ (qlk x 12 ((qadv x S).2.1 2) (qadv x (qadv x S)))) => ?_⟩⟩
        · refine And.intro (fun (q : ¬ (-1) = (-1)) => absurd q (by decide)) (fun _ => ?_)
          refine And.intro (show 0 ≤ 0 ∧ 0 ≤ 1 from by omega) ?_
          exact cRs_f hK (S := (qadv x (qadv x S))) (k := -(qlk x 12 ((qadv x S).2.1 2) (qadv x (qadv x S)))) (by unfold qAt; exact (qtn_k (show 0 ≤ (qlk x 6 (S.2.1 1) (qadv x S)) from o2)).trans ((if_neg (show ¬ 0 < S.2.1 (89 + (qlk x 6 (S.2.1 1) (qadv x S))) by have := (B1.2.2.2.2 (qlk x 6 (S.2.1 1) (qadv x S)) (by omega) (by omega)).1; have := (hS.2.2.2.2.2.2.2.1 (qlk x 6 (S.2.1 1) (qadv x S)) (by omega) (by omega)).1; have e2 : (qadv x S).2.1 (89 + (qlk x 6 (S.2.1 1) (qadv x S))) = S.2.1 (89 + (qlk x 6 (S.2.1 1) (qadv x S))) := (by rw [qadv_2]); omega)).trans (qtn_f (show (qlk x 12 ((qadv x S).2.1 2) (qadv x (qadv x S))) < 0 from o4)))) (by omega) F4
        · refine And.intro (fun _ => ?_) (fun (q : ((qlk x 12 ((qadv x S).2.1 2) (qadv x (qadv x S)))) = (-1)) => (by exfalso; omega))
          refine And.intro (show 0 ≤ ((qlk x 6 (S.2.1 1) (qadv x S))) ∧ ((qlk x 6 (S.2.1 1) (qadv x S))) < 6 from by omega) ?_
          refine And.intro (show Int.negSucc 0 ≤ ((qlk x 12 ((qadv x S).2.1 2) (qadv x (qadv x S)))) ∧ ((qlk x 12 ((qadv x S).2.1 2) (qadv x (qadv x S)))) ≤ 11 from rgm (by omega)) ?_
          have Bw5 : cTb (qst (89 + (qlk x 6 (S.2.1 1) (qadv x S))) ((qlk x 12 ((qadv x S).2.1 2) (qadv x (qadv x S))) + 1) (qadv x (qadv x S))) (vup σ3 89 ((qlk x 6 (S.2.1 1) (qadv x S))) ((qlk x 12 ((qadv x S).2.1 2) (qadv x (qadv x S))))) := (cTb_st (by simp only [qadv_2]; omega) B3 (i := 89 + (qlk x 6 (S.2.1 1) (qadv x S))) (v := (qlk x 12 ((qadv x S).2.1 2) (qadv x (qadv x S))) + 1) (by omega))
          refine And.intro (cT_nx ⟨(cT_t T3 (by decide)), (kw_n (qlk_n o4))⟩) (fun s5 (σ5 : vS) hh5 fr5 tt5 => ?_)
          have T5 : cT x (qadv x (qst (89 + (qlk x 6 (S.2.1 1) (qadv x S))) ((qlk x 12 ((qadv x S).2.1 2) (qadv x (qadv x S))) + 1) (qadv x (qadv x S)))).1 σ5 := cT_nextS (S := (qst (89 + (qlk x 6 (S.2.1 1) (qadv x S))) ((qlk x 12 ((qadv x S).2.1 2) (qadv x (qadv x S))) + 1) (qadv x (qadv x S)))) (cT_t T3 (by decide)) (kw_n (qlk_n o4)) hh5 fr5 tt5
          have B5 : cTb (qadv x (qst (89 + (qlk x 6 (S.2.1 1) (qadv x S))) ((qlk x 12 ((qadv x S).2.1 2) (qadv x (qadv x S))) + 1) (qadv x (qadv x S)))) σ5 := cTb_a (cTb_fr Bw5 fr5.1)
          refine And.intro (show 0 ≤ 1 ∧ 1 ≤ 1 from by omega) ?_
          exact cRs_d hK (S := (qadv x (qst (89 + (qlk x 6 (S.2.1 1) (qadv x S))) ((qlk x 12 ((qadv x S).2.1 2) (qadv x (qadv x S))) + 1) (qadv x (qadv x S))))) (by unfold qAt; exact (qtn_k (show 0 ≤ (qlk x 6 (S.2.1 1) (qadv x S)) from o2)).trans ((if_neg (show ¬ 0 < S.2.1 (89 + (qlk x 6 (S.2.1 1) (qadv x S))) by have := (B1.2.2.2.2 (qlk x 6 (S.2.1 1) (qadv x S)) (by omega) (by omega)).1; have := (hS.2.2.2.2.2.2.2.1 (qlk x 6 (S.2.1 1) (qadv x S)) (by omega) (by omega)).1; have e2 : (qadv x S).2.1 (89 + (qlk x 6 (S.2.1 1) (qadv x S))) = S.2.1 (89 + (qlk x 6 (S.2.1 1) (qadv x S))) := (by rw [qadv_2]); omega)).trans (qtn_k (show 0 ≤ (qlk x 12 ((qadv x S).2.1 2) (qadv x (qadv x S))) from o4)))) T5 B5
      · refine And.intro (cT_fl T1 (by omega)) ?_
        refine And.intro (show 0 ≤ 0 ∧ 0 ≤ 1 from by omega) ?_
        exact cRs_f hK (S := (qadv x S)) (k := 3) (by unfold qAt; exact (qtn_k (show 0 ≤ (qlk x 6 (S.2.1 1) (qadv x S)) from o2)).trans (if_pos (show 0 < S.2.1 (89 + (qlk x 6 (S.2.1 1) (qadv x S))) by have := (B1.2.2.2.2 (qlk x 6 (S.2.1 1) (qadv x S)) (by omega) (by omega)).1; have := (hS.2.2.2.2.2.2.2.1 (qlk x 6 (S.2.1 1) (qadv x S)) (by omega) (by omega)).1; have e2 : (qadv x S).2.1 (89 + (qlk x 6 (S.2.1 1) (qadv x S))) = S.2.1 (89 + (qlk x 6 (S.2.1 1) (qadv x S))) := (by rw [qadv_2]); omega))) (by decide) (cFl_of T1)
  · exact absurd h id
set_option maxRecDepth 8192 in
theorem vk_94 (X : zX gKX E) (B : zB E) : zOKC E md72 w 94 vs94 := by
  intro q hq vs σ K h
  cases (show gMT 94 = some (gm_94, 4) from rfl).symm.trans hq
  unfold vs94 at h
  split at h
  · skip
    show zGC E md72 w gm_94 0 [(0, .inr (.inl 9)), (1, .inr (.inl 7))] σ K
    obtain ⟨x, S, hT, k4, hB, hS, hK⟩ := h
    have hH : cHn S := ⟨hS.2.1, hS.2.2.1, hS.2.2.2.1⟩
    have hS0 := hS.2.1; have hS1 := hS.2.2.1; have hS2 := hS.2.2.2.1; have hS3 := hS.2.2.2.2.1
    refine zbdC (fun hb => zgoC X B (vL3_ok X B) [] [] (fun m => false) (by decide +kernel) ?_)
    refine And.intro (cT_nx ⟨hT, k4⟩) (fun s1 (σ1 : vS) hh1 fr1 tt1 => ?_)
    have T1 : cT x (qadv x S).1 σ1 := cT_nextS (S := S) hT k4 hh1 fr1 tt1
    have B1 : cTb (qadv x S) σ1 := cTb_a (cTb_fr hB fr1.1)
    have em2 : (S.2.1 1) = S.2.1 1 := by simp only [qadv_2]
    have j2 : (qlk x 6 (S.2.1 1) (qadv x S)) < (S.2.1 1) := qlk_b (by omega)
    have jj2 : -3 ≤ (qlk x 6 (S.2.1 1) (qadv x S)) := qlk_m (by omega)
    refine ⟨by decide, x, (qadv x S), (S.2.1 1), T1, B1.1, (cHn_a hH), fun q => absurd q (by decide), fun _ => ⟨by simp only [qadv_2], fun (o2 : (qlk x 6 (S.2.1 1) (qadv x S)) < 0) (σ2 : vS) (F2 : cFl x (-(qlk x 6 (S.2.1 1) (qadv x S))) (qadv x S).1 σ2) (G2 : cg σ1 σ2) => ?_, fun (o2 : 0 ≤ (qlk x 6 (S.2.1 1) (qadv x S))) => ?_⟩, fun q => absurd q (by decide)⟩
    · refine And.intro (fun (q : ¬ (-1) = (-1)) => absurd q (by decide)) (fun _ => ?_)
      refine And.intro (show 0 ≤ 0 ∧ 0 ≤ 1 from by omega) ?_
      exact cRs_f hK (S := (qadv x S)) (k := -(qlk x 6 (S.2.1 1) (qadv x S))) (by unfold qHeir; exact qtn_f (show (qlk x 6 (S.2.1 1) (qadv x S)) < 0 from o2)) (by omega) F2
    · refine And.intro (fun _ => ?_) (fun (q : ((qlk x 6 (S.2.1 1) (qadv x S))) = (-1)) => (by exfalso; omega))
      refine And.intro (show 0 ≤ ((qlk x 6 (S.2.1 1) (qadv x S))) ∧ ((qlk x 6 (S.2.1 1) (qadv x S))) < 6 from by omega) ?_
      refine And.intro (fun (c1 : (σ1 90 ((qlk x 6 (S.2.1 1) (qadv x S)))) = (-1)) => ?_) (fun (c2 : ¬ (σ1 90 ((qlk x 6 (S.2.1 1) (qadv x S)))) = (-1)) => ?_)
      · refine And.intro (cT_nx ⟨T1, (kw_n (qlk_n o2))⟩) (fun s3 (σ3 : vS) hh3 fr3 tt3 => ?_)
        have T3 : cT x (qadv x (qadv x S)).1 σ3 := cT_nextS (S := (qadv x S)) T1 (kw_n (qlk_n o2)) hh3 fr3 tt3
        have B3 : cTb (qadv x (qadv x S)) σ3 := cTb_a (cTb_fr B1 fr3.1)
        have em4 : ((qadv x S).2.1 1) = S.2.1 1 := by simp only [qadv_2]
        have j4 : (qlk x 6 ((qadv x S).2.1 1) (qadv x (qadv x S))) < ((qadv x S).2.1 1) := qlk_b (by omega)
        have jj4 : -3 ≤ (qlk x 6 ((qadv x S).2.1 1) (qadv x (qadv x S))) := qlk_m (by omega)
        refine ⟨by decide, x, (qadv x (qadv x S)), ((qadv x S).2.1 1), T3, B3.1, (cHn_a (cHn_a hH)), fun q => absurd q (by decide), fun _ => ⟨by simp only [qadv_2], fun (o4 : (qlk x 6 ((qadv x S).2.1 1) (qadv x (qadv x S))) < 0) (σ4 : vS) (F4 : cFl x (-(qlk x 6 ((qadv x S).2.1 1) (qadv x (qadv x S)))) (qadv x (qadv x S)).1 σ4) (G4 : cg σ3 σ4) => ?_, fun (o4 : 0 ≤ (qlk x 6 ((qadv x S).2.1 1) (qadv x (qadv x S)))) => ?_⟩, fun q => absurd q (by decide)⟩
        · refine And.intro (fun (q : ¬ (-1) = (-1)) => absurd q (by decide)) (fun _ => ?_)
          refine And.intro (show 0 ≤ 0 ∧ 0 ≤ 1 from by omega) ?_
          exact cRs_f hK (S := (qadv x (qadv x S))) (k := -(qlk x 6 ((qadv x S).2.1 1) (qadv x (qadv x S)))) (by unfold qHeir; exact (qtn_k (show 0 ≤ (qlk x 6 (S.2.1 1) (qadv x S)) from o2)).trans ((if_neg (show ¬ 0 < S.2.1 (101 + (qlk x 6 (S.2.1 1) (qadv x S))) by have := (B1.2.2.2.2 (qlk x 6 (S.2.1 1) (qadv x S)) (by omega) (by omega)).2.1; have := (hS.2.2.2.2.2.2.2.1 (qlk x 6 (S.2.1 1) (qadv x S)) (by omega) (by omega)).2; have e2 : (qadv x S).2.1 (101 + (qlk x 6 (S.2.1 1) (qadv x S))) = S.2.1 (101 + (qlk x 6 (S.2.1 1) (qadv x S))) := (by rw [qadv_2]); omega)).trans (qtn_f (show (qlk x 6 ((qadv x S).2.1 1) (qadv x (qadv x S))) < 0 from o4)))) (by omega) F4
        · refine And.intro (fun _ => ?_) (fun (q : ((qlk x 6 ((qadv x S).2.1 1) (qadv x (qadv x S)))) = (-1)) => (by exfalso; omega))
          refine And.intro (fun (c3 : ¬ ((qlk x 6 (S.2.1 1) (qadv x S))) = ((qlk x 6 ((qadv x S).2.1 1) (qadv x (qadv x S))))) => ?_) (fun (c4 : ((qlk x 6 (S.2.1 1) (qadv x S))) = ((qlk x 6 ((qadv x S).2.1 1) (qadv x (qadv x S))))) => ?_)
          · refine And.intro (show 0 ≤ ((qlk x 6 (S.2.1 1) (qadv x S))) ∧ ((qlk x 6 (S.2.1 1) (qadv x S))) < 6 from by omega) ?_
            refine And.intro (show Int.negSucc 0 ≤ ((qlk x 6 ((qadv x S).2.1 1) (qadv x (qadv x S)))) ∧ ((qlk x 6 ((qadv x S).2.1 1) (qadv x (qadv x S)))) ≤ 5 from rgm (by omega)) ?_
            have Bw5 : cTb (qst (101 + (qlk x 6 (S.2.1 1) (qadv x S))) ((qlk x 6 ((qadv x S).2.1 1) (qadv x (qadv x S))) + 1) (qadv x (qadv x S))) (vup σ3 90 ((qlk x 6 (S.2.1 1) (qadv x S))) ((qlk x 6 ((qadv x S).2.1 1) (qadv x (qadv x S))))) := (cTb_st (by simp only [qadv_2]; omega) B3 (i := 101 + (qlk x 6 (S.2.1 1) (qadv x S))) (v := (qlk x 6 ((qadv x S).2.1 1) (qadv x (qadv x S))) + 1) (by omega))
            refine And.intro (cT_nx ⟨(cT_t T3 (by decide)), (kw_n (qlk_n o4))⟩) (fun s5 (σ5 : vS) hh5 fr5 tt5 => ?_)
            have T5 : cT x (qadv x (qst (101 + (qlk x 6 (S.2.1 1) (qadv x S))) ((qlk x 6 ((qadv x S).2.1 1) (qadv x (qadv x S))) + 1) (qadv x (qadv x S)))).1 σ5 := cT_nextS (S := (qst (101 + (qlk x 6 (S.2.1 1) (qadv x S))) ((qlk x 6 ((qadv x S).2.1 1) (qadv x (qadv x S))) + 1) (qadv x (qadv x S)))) (cT_t T3 (by decide)) (kw_n (qlk_n o4)) hh5 fr5 tt5
            have B5 : cTb (qadv x (qst (101 + (qlk x 6 (S.2.1 1) (qadv x S))) ((qlk x 6 ((qadv x S).2.1 1) (qadv x (qadv x S))) + 1) (qadv x (qadv x S)))) σ5 := cTb_a (cTb_fr Bw5 fr5.1)
            refine And.intro (show 0 ≤ 1 ∧ 1 ≤ 1 from by omega) ?_
            exact cRs_d hK (S := (qadv x (qst (101 + (qlk x 6 (S.2.1 1) (qadv x S))) ((qlk x 6 ((qadv x S).2.1 1) (qadv x (qadv x S))) + 1) (qadv x (qadv x S))))) (by unfold qHeir; exact (qtn_k (show 0 ≤ (qlk x 6 (S.2.1 1) (qadv x S)) from o2)).trans ((if_neg (show ¬ 0 < S.2.1 (101 + (qlk x 6 (S.2.1 1) (qadv x S))) by have := (B1.2.2.2.2 (qlk x 6 (S.2.1 1) (qadv x S)) (by omega) (by omega)).2.1; have := (hS.2.2.2.2.2.2.2.1 (qlk x 6 (S.2.1 1) (qadv x S)) (by omega) (by omega)).2; have e2 : (qadv x S).2.1 (101 + (qlk x 6 (S.2.1 1) (qadv x S))) = S.2.1 (101 + (qlk x 6 (S.2.1 1) (qadv x S))) := (by rw [qadv_2]); omega)).trans ((qtn_k (show 0 ≤ (qlk x 6 ((qadv x S).2.1 1) (qadv x (qadv x S))) from o4)).trans (if_neg (show ¬ (qlk x 6 ((qadv x S).2.1 1) (qadv x (qadv x S))) = (qlk x 6 (S.2.1 1) (qadv x S)) by omega))))) T5 B5
          · refine And.intro (cT_fl T3 (by omega)) ?_
            refine And.intro (show 0 ≤ 0 ∧ 0 ≤ 1 from by omega) ?_
            exact cRs_f hK (S := (qadv x (qadv x S))) (k := 3) (by unfold qHeir; exact (qtn_k (show 0 ≤ (qlk x 6 (S.2.1 1) (qadv x S)) from o2)).trans ((if_neg (show ¬ 0 < S.2.1 (101 + (qlk x 6 (S.2.1 1) (qadv x S))) by have := (B1.2.2.2.2 (qlk x 6 (S.2.1 1) (qadv x S)) (by omega) (by omega)).2.1; have := (hS.2.2.2.2.2.2.2.1 (qlk x 6 (S.2.1 1) (qadv x S)) (by omega) (by omega)).2; have e2 : (qadv x S).2.1 (101 + (qlk x 6 (S.2.1 1) (qadv x S))) = S.2.1 (101 + (qlk x 6 (S.2.1 1) (qadv x S))) := (by rw [qadv_2]); omega)).trans ((qtn_k (show 0 ≤ (qlk x 6 ((qadv x S).2.1 1) (qadv x (qadv x S))) from o4)).trans (if_pos (show (qlk x 6 ((qadv x S).2.1 1) (qadv x (qadv x S))) = (qlk x 6 (S.2.1 1) (qadv x S)) by omega))))) (by decide) (cFl_of T3)
      · refine And.intro (cT_fl T1 (by omega)) ?_
        refine And.intro (show 0 ≤ 0 ∧ 0 ≤ 1 from by omega) ?_
        exact cRs_f hK (S := (qadv x S)) (k := 3) (by unfold qHeir; exact (qtn_k (show 0 ≤ (qlk x 6 (S.2.1 1) (qadv x S)) from o2)).trans (if_pos (show 0 < S.2.1 (101 + (qlk x 6 (S.2.1 1) (qadv x S))) by have := (B1.2.2.2.2 (qlk x 6 (S.2.1 1) (qadv x S)) (by omega) (by omega)).2.1; have := (hS.2.2.2.2.2.2.2.1 (qlk x 6 (S.2.1 1) (qadv x S)) (by omega) (by omega)).2; have e2 : (qadv x S).2.1 (101 + (qlk x 6 (S.2.1 1) (qadv x S))) = S.2.1 (101 + (qlk x 6 (S.2.1 1) (qadv x S))) := (by rw [qadv_2]); omega))) (by decide) (cFl_of T1)
  · exact absurd h id
set_option maxRecDepth 8192 in
theorem vk_96 (X : zX gKX E) (B : zB E) : zOKC E md72 w 96 vs96 := by
  intro q hq vs σ K h
  cases (show gMT 96 = some (gm_96, 4) from rfl).symm.trans hq
  unfold vs96 at h
  split at h
  · skip
    show zGC E md72 w gm_96 0 [(0, .inr (.inl 9)), (1, .inr (.inl 7))] σ K
    obtain ⟨x, S, hT, k4, hB, hS, hK⟩ := h
    have hH : cHn S := ⟨hS.2.1, hS.2.2.1, hS.2.2.2.1⟩
    have hS0 := hS.2.1; have hS1 := hS.2.2.1; have hS2 := hS.2.2.2.1; have hS3 := hS.2.2.2.2.1
    refine zbdC (fun hb => zgoC X B (vL3_ok X B) [] [] (fun m => false) (by decide +kernel) ?_)
    refine And.intro (cT_nx ⟨hT, k4⟩) (fun s1 (σ1 : vS) hh1 fr1 tt1 => ?_)
    have T1 : cT x (qadv x S).1 σ1 := cT_nextS (S := S) hT k4 hh1 fr1 tt1
    have B1 : cTb (qadv x S) σ1 := cTb_a (cTb_fr hB fr1.1)
    have em2 : (S.2.1 1) = S.2.1 1 := by simp only [qadv_2]
    have j2 : (qlk x 6 (S.2.1 1) (qadv x S)) < (S.2.1 1) := qlk_b (by omega)
    have jj2 : -3 ≤ (qlk x 6 (S.2.1 1) (qadv x S)) := qlk_m (by omega)
    refine ⟨by decide, x, (qadv x S), (S.2.1 1), T1, B1.1, (cHn_a hH), fun q => absurd q (by decide), fun _ => ⟨by simp only [qadv_2], fun (o2 : (qlk x 6 (S.2.1 1) (qadv x S)) < 0) (σ2 : vS) (F2 : cFl x (-(qlk x 6 (S.2.1 1) (qadv x S))) (qadv x S).1 σ2) (G2 : cg σ1 σ2) => ?_, fun (o2 : 0 ≤ (qlk x 6 (S.2.1 1) (qadv x S))) => ?_⟩, fun q => absurd q (by decide)⟩
    · refine And.intro (fun (q : ¬ (-1) = (-1)) => absurd q (by decide)) (fun _ => ?_)
      refine And.intro (show 0 ≤ 0 ∧ 0 ≤ 1 from by omega) ?_
      exact cRs_f hK (S := (qadv x S)) (k := -(qlk x 6 (S.2.1 1) (qadv x S))) (by unfold qLet; exact qtn_f (show (qlk x 6 (S.2.1 1) (qadv x S)) < 0 from o2)) (by omega) F2
    · refine And.intro (fun _ => ?_) (fun (q : ((qlk x 6 (S.2.1 1) (qadv x S))) = (-1)) => (by exfalso; omega))
      refine And.intro (cT_nx ⟨T1, (kw_n (qlk_n o2))⟩) (fun s3 (σ3 : vS) hh3 fr3 tt3 => ?_)
      have T3 : cT x (qadv x (qadv x S)).1 σ3 := cT_nextS (S := (qadv x S)) T1 (kw_n (qlk_n o2)) hh3 fr3 tt3
      have B3 : cTb (qadv x (qadv x S)) σ3 := cTb_a (cTb_fr B1 fr3.1)
      have em4 : ((qadv x S).2.1 1) = S.2.1 1 := by simp only [qadv_2]
      have j4 : (qlk x 6 ((qadv x S).2.1 1) (qadv x (qadv x S))) < ((qadv x S).2.1 1) := qlk_b (by omega)
      have jj4 : -3 ≤ (qlk x 6 ((qadv x S).2.1 1) (qadv x (qadv x S))) := qlk_m (by omega)
      refine ⟨by decide, x, (qadv x (qadv x S)), ((qadv x S).2.1 1), T3, B3.1, (cHn_a (cHn_a hH)), fun q => absurd q (by decide), fun _ => ⟨by simp only [qadv_2], fun (o4 : (qlk x 6 ((qadv x S).2.1 1) (qadv x (qadv x S))) < 0) (σ4 : vS) (F4 : cFl x (-(qlk x 6 ((qadv x S).2.1 1) (qadv x (qadv x S)))) (qadv x (qadv x S)).1 σ4) (G4 : cg σ3 σ4) => ?_, fun (o4 : 0 ≤ (qlk x 6 ((qadv x S).2.1 1) (qadv x (qadv x S)))) => ?_⟩, fun q => absurd q (by decide)⟩
      · refine And.intro (fun (q : ¬ (-1) = (-1)) => absurd q (by decide)) (fun _ => ?_)
        refine And.intro (show 0 ≤ 0 ∧ 0 ≤ 1 from by omega) ?_
        exact cRs_f hK (S := (qadv x (qadv x S))) (k := -(qlk x 6 ((qadv x S).2.1 1) (qadv x (qadv x S)))) (by unfold qLet; exact (qtn_k (show 0 ≤ (qlk x 6 (S.2.1 1) (qadv x S)) from o2)).trans (qtn_f (show (qlk x 6 ((qadv x S).2.1 1) (qadv x (qadv x S))) < 0 from o4))) (by omega) F4
      · refine And.intro (fun _ => ?_) (fun (q : ((qlk x 6 ((qadv x S).2.1 1) (qadv x (qadv x S)))) = (-1)) => (by exfalso; omega))
        refine And.intro (fun (c1 : ((qlk x 6 (S.2.1 1) (qadv x S))) = ((qlk x 6 ((qadv x S).2.1 1) (qadv x (qadv x S))))) => ?_) (fun (c2 : ¬ ((qlk x 6 (S.2.1 1) (qadv x S))) = ((qlk x 6 ((qadv x S).2.1 1) (qadv x (qadv x S))))) => ?_)
        · refine And.intro (cT_fl T3 (by omega)) ?_
          refine And.intro (show 0 ≤ 0 ∧ 0 ≤ 1 from by omega) ?_
          have eb := (B3.2.2.2.2 (qlk x 6 (S.2.1 1) (qadv x S)) (by omega) (by omega)).2.2
          have ht := tb01 (x := S.2.1 (95 + (qlk x 6 (S.2.1 1) (qadv x S)))) (k := (qlk x 6 ((qadv x S).2.1 1) (qadv x (qadv x S)))) (by omega) (by omega)
          simp only [qadv_2] at eb
          have cc : (qlk x 6 ((qadv x S).2.1 1) (qadv x (qadv x S))) = (qlk x 6 (S.2.1 1) (qadv x S)) ∨ tb (S.2.1 (95 + (qlk x 6 (S.2.1 1) (qadv x S)))) (qlk x 6 ((qadv x S).2.1 1) (qadv x (qadv x S))) = true := (Decidable.em ((qlk x 6 ((qadv x S).2.1 1) (qadv x (qadv x S))) = (qlk x 6 (S.2.1 1) (qadv x S)))).imp id (fun z => by rcases ht with w1 | w1; exact w1.1; exfalso; rw [← eb] at w1; omega)
          exact cRs_f hK (S := (qadv x (qadv x S))) (k := 3) (by unfold qLet; exact (qtn_k (show 0 ≤ (qlk x 6 (S.2.1 1) (qadv x S)) from o2)).trans ((qtn_k (show 0 ≤ (qlk x 6 ((qadv x S).2.1 1) (qadv x (qadv x S))) from o4)).trans (if_pos cc))) (by decide) (cFl_of T3)
        · refine And.intro (show 0 ≤ ((qlk x 6 (S.2.1 1) (qadv x S))) ∧ ((qlk x 6 (S.2.1 1) (qadv x S))) < 6 from by omega) ?_
          refine And.intro (fun (c3 : (vand (vshr (σ3 91 ((qlk x 6 (S.2.1 1) (qadv x S)))) ((qlk x 6 ((qadv x S).2.1 1) (qadv x (qadv x S))))) 1) = 0) => ?_) (fun (c4 : ¬ (vand (vshr (σ3 91 ((qlk x 6 (S.2.1 1) (qadv x S)))) ((qlk x 6 ((qadv x S).2.1 1) (qadv x (qadv x S))))) 1) = 0) => ?_)
          · refine And.intro (show 0 ≤ 0 ∧ 0 ≤ 1 from by omega) ?_
            refine And.intro (fun _ => ?_) (fun (q : ¬ 0 = 0) => absurd q (by decide))
            refine And.intro (show 0 ≤ ((qlk x 6 (S.2.1 1) (qadv x S))) ∧ ((qlk x 6 (S.2.1 1) (qadv x S))) < 6 from by omega) ?_
            refine And.intro (show 0 ≤ ((qlk x 6 (S.2.1 1) (qadv x S))) ∧ ((qlk x 6 (S.2.1 1) (qadv x S))) < 6 from by omega) ?_
            refine And.intro (show Int.negSucc 2147483647 ≤ (vor (σ3 91 ((qlk x 6 (S.2.1 1) (qadv x S)))) (vshl 1 ((qlk x 6 ((qadv x S).2.1 1) (qadv x (qadv x S)))))) ∧ (vor (σ3 91 ((qlk x 6 (S.2.1 1) (qadv x S)))) (vshl 1 ((qlk x 6 ((qadv x S).2.1 1) (qadv x (qadv x S)))))) ≤ 2147483647 from rgm (by have := vor_b (x := (σ3 91 ((qlk x 6 (S.2.1 1) (qadv x S))))) (y := (vshl 1 ((qlk x 6 ((qadv x S).2.1 1) (qadv x (qadv x S)))))); omega)) ?_
            have Bw5 : cTb (qst (95 + (qlk x 6 (S.2.1 1) (qadv x S))) (vor (S.2.1 (95 + (qlk x 6 (S.2.1 1) (qadv x S)))) (vshl 1 (qlk x 6 ((qadv x S).2.1 1) (qadv x (qadv x S))))) (qadv x (qadv x S))) (vup σ3 91 ((qlk x 6 (S.2.1 1) (qadv x S))) (vor (σ3 91 ((qlk x 6 (S.2.1 1) (qadv x S)))) (vshl 1 ((qlk x 6 ((qadv x S).2.1 1) (qadv x (qadv x S))))))) := (by rw [(B3.2.2.2.2 (qlk x 6 (S.2.1 1) (qadv x S)) (by omega) (by omega)).2.2]; simp only [qadv_2]; exact cTb_st (by simp only [qadv_2]; omega) B3 (i := 95 + (qlk x 6 (S.2.1 1) (qadv x S))) (v := (vor (S.2.1 (95 + (qlk x 6 (S.2.1 1) (qadv x S)))) (vshl 1 (qlk x 6 ((qadv x S).2.1 1) (qadv x (qadv x S)))))) (Or.inr (Or.inr (Or.inr ⟨rfl, rfl, by omega, by omega, rfl⟩))))
            refine And.intro (cT_nx ⟨(cT_t T3 (by decide)), (kw_n (qlk_n o4))⟩) (fun s5 (σ5 : vS) hh5 fr5 tt5 => ?_)
            have T5 : cT x (qadv x (qst (95 + (qlk x 6 (S.2.1 1) (qadv x S))) (vor (S.2.1 (95 + (qlk x 6 (S.2.1 1) (qadv x S)))) (vshl 1 (qlk x 6 ((qadv x S).2.1 1) (qadv x (qadv x S))))) (qadv x (qadv x S)))).1 σ5 := cT_nextS (S := (qst (95 + (qlk x 6 (S.2.1 1) (qadv x S))) (vor (S.2.1 (95 + (qlk x 6 (S.2.1 1) (qadv x S)))) (vshl 1 (qlk x 6 ((qadv x S).2.1 1) (qadv x (qadv x S))))) (qadv x (qadv x S)))) (cT_t T3 (by decide)) (kw_n (qlk_n o4)) hh5 fr5 tt5
            have B5 : cTb (qadv x (qst (95 + (qlk x 6 (S.2.1 1) (qadv x S))) (vor (S.2.1 (95 + (qlk x 6 (S.2.1 1) (qadv x S)))) (vshl 1 (qlk x 6 ((qadv x S).2.1 1) (qadv x (qadv x S))))) (qadv x (qadv x S)))) σ5 := cTb_a (cTb_fr Bw5 fr5.1)
            refine And.intro (show 0 ≤ 1 ∧ 1 ≤ 1 from by omega) ?_
            have eb := (B3.2.2.2.2 (qlk x 6 (S.2.1 1) (qadv x S)) (by omega) (by omega)).2.2
            have ht := tb01 (x := S.2.1 (95 + (qlk x 6 (S.2.1 1) (qadv x S)))) (k := (qlk x 6 ((qadv x S).2.1 1) (qadv x (qadv x S)))) (by omega) (by omega)
            simp only [qadv_2] at eb
            have cc : ¬ ((qlk x 6 ((qadv x S).2.1 1) (qadv x (qadv x S))) = (qlk x 6 (S.2.1 1) (qadv x S)) ∨ tb (S.2.1 (95 + (qlk x 6 (S.2.1 1) (qadv x S)))) (qlk x 6 ((qadv x S).2.1 1) (qadv x (qadv x S))) = true) := fun z => by
              rcases z with z | z
              · omega
              · rcases ht with w1 | w1
                · rw [← eb] at w1; omega
                · rw [w1.1] at z; exact absurd z Bool.false_ne_true
            exact cRs_d hK (S := (qadv x (qst (95 + (qlk x 6 (S.2.1 1) (qadv x S))) (vor (S.2.1 (95 + (qlk x 6 (S.2.1 1) (qadv x S)))) (vshl 1 (qlk x 6 ((qadv x S).2.1 1) (qadv x (qadv x S))))) (qadv x (qadv x S))))) (by unfold qLet; exact (qtn_k (show 0 ≤ (qlk x 6 (S.2.1 1) (qadv x S)) from o2)).trans ((qtn_k (show 0 ≤ (qlk x 6 ((qadv x S).2.1 1) (qadv x (qadv x S))) from o4)).trans (if_neg cc))) T5 B5
          · refine And.intro (show 0 ≤ 1 ∧ 1 ≤ 1 from by omega) ?_
            refine And.intro (fun (q : 1 = 0) => absurd q (by decide)) (fun _ => ?_)
            refine And.intro (cT_fl T3 (by omega)) ?_
            refine And.intro (show 0 ≤ 0 ∧ 0 ≤ 1 from by omega) ?_
            have eb := (B3.2.2.2.2 (qlk x 6 (S.2.1 1) (qadv x S)) (by omega) (by omega)).2.2
            have ht := tb01 (x := S.2.1 (95 + (qlk x 6 (S.2.1 1) (qadv x S)))) (k := (qlk x 6 ((qadv x S).2.1 1) (qadv x (qadv x S)))) (by omega) (by omega)
            simp only [qadv_2] at eb
            have cc : (qlk x 6 ((qadv x S).2.1 1) (qadv x (qadv x S))) = (qlk x 6 (S.2.1 1) (qadv x S)) ∨ tb (S.2.1 (95 + (qlk x 6 (S.2.1 1) (qadv x S)))) (qlk x 6 ((qadv x S).2.1 1) (qadv x (qadv x S))) = true := (Decidable.em ((qlk x 6 ((qadv x S).2.1 1) (qadv x (qadv x S))) = (qlk x 6 (S.2.1 1) (qadv x S)))).imp id (fun z => by rcases ht with w1 | w1; exact w1.1; exfalso; rw [← eb] at w1; omega)
            exact cRs_f hK (S := (qadv x (qadv x S))) (k := 3) (by unfold qLet; exact (qtn_k (show 0 ≤ (qlk x 6 (S.2.1 1) (qadv x S)) from o2)).trans ((qtn_k (show 0 ≤ (qlk x 6 ((qadv x S).2.1 1) (qadv x (qadv x S))) from o4)).trans (if_pos cc))) (by decide) (cFl_of T3)
  · exact absurd h id
end ZV3
