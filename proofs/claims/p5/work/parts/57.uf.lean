/-! THE REFERENCE READS A TERRACE: line. -/
noncomputable section
def us237 : vSpL := fun vs σ K => match vs with
  | [.inr (.inl 12)] => ∃ x S, rT x S.1 σ ∧ rTb S σ ∧ qSb x S ∧ rRs x (qline x S) σ K
  | _ => False
def uRO : List (Nat × vSpL) := (210, us210) :: (259, us259) :: (258, us258) :: (260, us260) :: uRN
end
theorem qIs_w {x : qX} {S : qS} {σ : vS} {w : Int} (hT : rT x S.1 σ) : qIs x S w = true ↔ σ 12 11 = 1 ∧ σ 12 17 = w := by
  unfold qIs qtk
  rw [Bool.and_eq_true, decide_eq_true_iff, decide_eq_true_iff, hT.2.1.1]
  exact ⟨fun q => ⟨q.1, (hT.2.1.2.2.2.2 q.1).trans q.2⟩, fun q => ⟨q.1, (hT.2.1.2.2.2.2 q.1).symm.trans q.2⟩⟩
theorem qfr_h {x : qX} {to : Int} {S : qS} (h : (qfr x to S).1 = 0) : (qfr x to S).2.2.1 = S.2.1 := by
  unfold qfr at h ⊢
  split at h
  · rename_i h1
    split at h
    · rename_i h2
      exact absurd (show (3 : Int) = 0 from h) (by decide)
    · rename_i h2
      rw [if_pos h1, if_neg h2]
      rfl
  · exact absurd (show (1 : Int) = 0 from h) (by decide)
theorem qfr_p {x : qX} {to : Int} {S : qS} (h : (qfr x to S).1 = 0) : (qfr x to S).2.1 = qnx x.1 x.2.1 S.1 := by
  unfold qfr at h ⊢
  split at h
  · rename_i h1
    split at h
    · rename_i h2
      exact absurd (show (3 : Int) = 0 from h) (by decide)
    · rename_i h2
      rw [if_pos h1, if_neg h2]
      rfl
  · exact absurd (show (1 : Int) = 0 from h) (by decide)
theorem qtn_cg {x : qX} {a m : Int} {S : qS} {c c2 : Int → qS → qR} (h : ∀ r, c r S = c2 r S) : qtn x a m S c = qtn x a m S c2 := by
  unfold qtn
  split
  · rfl
  · exact h _
theorem rTb_ig {S : qS} {σ : vS} {i v : Int} (h : rTb S σ) (hi : 5 ≤ i ∧ i < 29) : rTb S (vup σ 53 i v) := ⟨fun j hj => by
  rw [vup_ne 53 j (fun q => by have := q.2; omega)]
  exact h.1 j hj, fun j a b => by rw [vup_fr (by decide)]; exact h.2 j a b⟩
theorem qSb_p {x : qX} {S : qS} {p : Int} (h : qSb x S) (hp : 0 ≤ p ∧ p ≤ x.2.1) : qSb x (p, S.2) := ⟨hp, h.2⟩
theorem qSb_a {x : qX} {S : qS} (h : qSb x S) (hl : 0 ≤ x.2.2) : qSb x (qadv x S) := qSb_p h (q_bd h.1.1 h.1.2 hl).2.2
section ZU4
variable {E : zE} {w : va_W} {σ : vS} {K : vKL}
theorem uRO_ok (X : zX gKX E) (B : zB E) : zSL E gJ1 mdT w uRO := zS_consL (uk_210 X B) (zS_consL (uk_259 X B) (zS_consL (uk_258 X B) (zS_consL (uk_260 X B) (uRN_ok X B))))
set_option maxRecDepth 16384 in
theorem uk_237 (X : zX gKX E) (B : zB E) : zOKL E gJ1 mdT w 237 us237 := by
  intro q hq vs σ K h
  cases (show gMT 237 = some (gm_237, 3) from rfl).symm.trans hq
  unfold us237 at h
  split at h
  · show zGL E gJ1 mdT w gm_237 0 [(0, .inr (.inl 12))] σ K
    obtain ⟨x, S, hT, hTb, hS, hK⟩ := h
    have b0 : σ 53 0 = S.2.1 0 := hTb.1 0 (by omega)
    have b1 : σ 53 1 = S.2.1 1 := hTb.1 1 (by omega)
    have b2 : σ 53 2 = S.2.1 2 := hTb.1 2 (by omega)
    have b3 : σ 53 3 = S.2.1 3 := hTb.1 3 (by omega)
    have hS0 := hS.2.1; have hS1 := hS.2.2.1; have hS2 := hS.2.2.2.1; have hS3 := hS.2.2.2.2.1
    refine zbdL (fun hb => ?_)
    have hSa := qSb_a hS (lim_ok B hb hT.1).1
    have hSc := qSb_a hSa (lim_ok B hb hT.1).1
    refine zbdL (fun hb => zgoL X B (uRO_ok X B) [] [] (fun m => false) (by decide +kernel) ?_)
    refine fun z (t1 : (z = 1 ∧ σ 12 11 = 1 ∧ σ 12 17 = 448546567013) ∨ (z = 0 ∧ ¬ (σ 12 11 = 1 ∧ σ 12 17 = 448546567013))) => ?_
    rcases t1 with ⟨rfl, t1⟩ | ⟨rfl, t1⟩
    · have i0 : qIs x S 448546567013 = true := (qIs_w hT).mpr t1
      have hk4 : ¬ qkd x.1 x.2.1 x.2.2 S.1 = 4 := by rw [← hT.2.1.1]; omega
      refine And.intro (fun (q : 1 = 0) => absurd q (by decide)) (fun _ => ?_)
      refine And.intro (show 0 ≤ 0 ∧ 0 < 179 from by omega) ?_
      have f2 : 0 ≤ σ 53 0 ∧ σ 53 0 ≤ 6 := zbL B hb (t := 53) (a := 0) (n := 2) (i := 0) (by decide +kernel) (by omega) (by omega)
      refine And.intro (fun (c3 : ¬ (σ 53 0) = 6) => ?_) (fun (c4 : (σ 53 0) = 6) => ?_)
      · refine fun (σ1 : vS) f1 t1 => ?_
        have T1 : rT x (qnx x.1 x.2.1 S.1) σ1 := rT_next hT hk4 (lim_ok B hb hT.1).1 f1 t1
        have B1 : rTb S σ1 := rTb_fr (σ := σ) hTb (f1.1 53 (by decide)) (f1.1 55 (by decide))
        have g1 : rgl σ σ1 := rgl_tr (σ1 := σ) rgl_refl (rg_l (rg_of f1))
        have b10 : σ1 53 0 = S.2.1 0 := B1.1 0 (by omega)
        have b11 : σ1 53 1 = S.2.1 1 := B1.1 1 (by omega)
        have b12 : σ1 53 2 = S.2.1 2 := B1.1 2 (by omega)
        have b13 : σ1 53 3 = S.2.1 3 := B1.1 3 (by omega)
        refine And.intro (show 0 ≤ 0 ∧ 0 < 179 from by omega) ?_
        refine And.intro (show -2147483648 ≤ (24 + (σ1 53 0)) ∧ (24 + (σ1 53 0)) ≤ 2147483647 from by omega) ?_
        have to2 : (24 + (σ1 53 0)) - 24 = 0 + S.2.1 0 := by have := B1.1 0 (by omega); have : (qadv x S).2.1 0 = S.2.1 0 := rfl; omega
        refine ⟨(show 24 ≤ 24 + (σ1 53 0) ∧ 24 + (σ1 53 0) < 48 from by omega), x, (qadv x S), T1, B1, hSa, fun c2 σ2 F2 G2 => ?_, fun c2 σ2 T2 B2 G2 => ?_⟩
        · rw [to2] at c2 F2
          refine And.intro (fun (q : ¬ 0 = 0) => absurd q (by decide)) (fun _ => ?_)
          refine And.intro (show 0 ≤ 0 ∧ 0 ≤ 1 from by omega) ?_
          have eL : qline x S = qNew x 0 0 6 S := if_pos i0
          exact rRs_f hK (eL.trans (show qNew x 0 0 6 S = ((qfr x (0 + S.2.1 0) (qadv x S)).1, (qfr x (0 + S.2.1 0) (qadv x S)).2) from (if_neg (by omega)).trans (if_neg c2))) c2 F2 (rgl_tr g1 (rg_l G2))
        · rw [to2] at c2 T2 B2
          have h2 : (qfr x (0 + S.2.1 0) (qadv x S)).2.2.1 = S.2.1 := qfr_h c2
          have g2 : rgl σ σ2 := rgl_tr g1 G2
          have b20 : σ2 53 0 = S.2.1 0 := (B2.1 0 (by omega)).trans (congrFun h2 0)
          have b21 : σ2 53 1 = S.2.1 1 := (B2.1 1 (by omega)).trans (congrFun h2 1)
          have b22 : σ2 53 2 = S.2.1 2 := (B2.1 2 (by omega)).trans (congrFun h2 2)
          have b23 : σ2 53 3 = S.2.1 3 := (B2.1 3 (by omega)).trans (congrFun h2 3)
          refine And.intro (fun _ => ?_) (fun (q : 1 = 0) => absurd q (by decide))
          refine And.intro (show 0 ≤ 0 ∧ 0 < 179 from by omega) ?_
          refine And.intro (show -2147483648 ≤ ((σ2 53 0) + 1) ∧ ((σ2 53 0) + 1) ≤ 2147483647 from by omega) ?_
          refine And.intro (show 0 ≤ 0 ∧ 0 < 179 from by omega) ?_
          refine And.intro (show vRg (zrg 53) 0 ((σ2 53 0) + 1) from rg53 (a := 0) (b := 1) (lo := 0) (hi := 6) (by decide +kernel) (by omega) (by omega) (by omega)) ?_
          refine And.intro (show 0 ≤ 1 ∧ 1 ≤ 1 from by omega) ?_
          have eL : qline x S = qNew x 0 0 6 S := if_pos i0
          exact rRs_d hK (eL.trans (show qNew x 0 0 6 S = (0, qst 0 ((qfr x (0 + S.2.1 0) (qadv x S)).2.2.1 0 + 1) (qfr x (0 + S.2.1 0) (qadv x S)).2) from (if_neg (by omega)).trans (if_pos c2))) (rT_t T2 (by decide)) (show rTb (qst 0 ((qfr x (0 + S.2.1 0) (qadv x S)).2.2.1 0 + 1) (qfr x (0 + S.2.1 0) (qadv x S)).2) _ from by rw [← B2.1 0 (by omega)]; exact rTb_st B2) (rgl_t g2 (by decide))
      · refine And.intro (by omega) ?_
        refine And.intro (show 0 ≤ 0 ∧ 0 ≤ 1 from by omega) ?_
        have eL : qline x S = qNew x 0 0 6 S := if_pos i0
        exact rRs_f hK (eL.trans (show qNew x 0 0 6 S = (4, S) from if_pos (by omega))) (by decide) (rFl_bad hT) (rg_l rg_bad)
    · have i0 : qIs x S 448546567013 = false := Bool.eq_false_iff.mpr (fun q => t1 ((qIs_w hT).mp q))
      refine And.intro (fun _ => ?_) (fun (q : ¬ 0 = 0) => absurd q (by decide))
      refine fun z (t5 : (z = 1 ∧ σ 12 11 = 1 ∧ σ 12 17 = 478745093490) ∨ (z = 0 ∧ ¬ (σ 12 11 = 1 ∧ σ 12 17 = 478745093490))) => ?_
      rcases t5 with ⟨rfl, t5⟩ | ⟨rfl, t5⟩
      · have i1 : qIs x S 478745093490 = true := (qIs_w hT).mpr t5
        have hk4 : ¬ qkd x.1 x.2.1 x.2.2 S.1 = 4 := by rw [← hT.2.1.1]; omega
        refine And.intro (fun (q : 1 = 0) => absurd q (by decide)) (fun _ => ?_)
        refine And.intro (show 0 ≤ 1 ∧ 1 < 179 from by omega) ?_
        have f6 : 0 ≤ σ 53 1 ∧ σ 53 1 ≤ 6 := zbL B hb (t := 53) (a := 0) (n := 2) (i := 1) (by decide +kernel) (by omega) (by omega)
        refine And.intro (fun (c7 : ¬ (σ 53 1) = 6) => ?_) (fun (c8 : (σ 53 1) = 6) => ?_)
        · refine fun (σ3 : vS) f3 t3 => ?_
          have T3 : rT x (qnx x.1 x.2.1 S.1) σ3 := rT_next hT hk4 (lim_ok B hb hT.1).1 f3 t3
          have B3 : rTb S σ3 := rTb_fr (σ := σ) hTb (f3.1 53 (by decide)) (f3.1 55 (by decide))
          have g3 : rgl σ σ3 := rgl_tr (σ1 := σ) rgl_refl (rg_l (rg_of f3))
          have b30 : σ3 53 0 = S.2.1 0 := B3.1 0 (by omega)
          have b31 : σ3 53 1 = S.2.1 1 := B3.1 1 (by omega)
          have b32 : σ3 53 2 = S.2.1 2 := B3.1 2 (by omega)
          have b33 : σ3 53 3 = S.2.1 3 := B3.1 3 (by omega)
          refine And.intro (show 0 ≤ 1 ∧ 1 < 179 from by omega) ?_
          refine And.intro (show -2147483648 ≤ (30 + (σ3 53 1)) ∧ (30 + (σ3 53 1)) ≤ 2147483647 from by omega) ?_
          have to4 : (30 + (σ3 53 1)) - 24 = 6 + S.2.1 1 := by have := B3.1 1 (by omega); have : (qadv x S).2.1 1 = S.2.1 1 := rfl; omega
          refine ⟨(show 24 ≤ 30 + (σ3 53 1) ∧ 30 + (σ3 53 1) < 48 from by omega), x, (qadv x S), T3, B3, hSa, fun c4 σ4 F4 G4 => ?_, fun c4 σ4 T4 B4 G4 => ?_⟩
          · rw [to4] at c4 F4
            refine And.intro (fun (q : ¬ 0 = 0) => absurd q (by decide)) (fun _ => ?_)
            refine And.intro (show 0 ≤ 0 ∧ 0 ≤ 1 from by omega) ?_
            have eL : qline x S = qNew x 1 6 6 S := (if_neg (by rw [i0]; exact Bool.false_ne_true)).trans (if_pos i1)
            exact rRs_f hK (eL.trans (show qNew x 1 6 6 S = ((qfr x (6 + S.2.1 1) (qadv x S)).1, (qfr x (6 + S.2.1 1) (qadv x S)).2) from (if_neg (by omega)).trans (if_neg c4))) c4 F4 (rgl_tr g3 (rg_l G4))
          · rw [to4] at c4 T4 B4
            have h4 : (qfr x (6 + S.2.1 1) (qadv x S)).2.2.1 = S.2.1 := qfr_h c4
            have g4 : rgl σ σ4 := rgl_tr g3 G4
            have b40 : σ4 53 0 = S.2.1 0 := (B4.1 0 (by omega)).trans (congrFun h4 0)
            have b41 : σ4 53 1 = S.2.1 1 := (B4.1 1 (by omega)).trans (congrFun h4 1)
            have b42 : σ4 53 2 = S.2.1 2 := (B4.1 2 (by omega)).trans (congrFun h4 2)
            have b43 : σ4 53 3 = S.2.1 3 := (B4.1 3 (by omega)).trans (congrFun h4 3)
            refine And.intro (fun _ => ?_) (fun (q : 1 = 0) => absurd q (by decide))
            refine And.intro (show 0 ≤ 1 ∧ 1 < 179 from by omega) ?_
            refine And.intro (show -2147483648 ≤ ((σ4 53 1) + 1) ∧ ((σ4 53 1) + 1) ≤ 2147483647 from by omega) ?_
            refine And.intro (show 0 ≤ 1 ∧ 1 < 179 from by omega) ?_
            refine And.intro (show vRg (zrg 53) 1 ((σ4 53 1) + 1) from rg53 (a := 1) (b := 2) (lo := 0) (hi := 6) (by decide +kernel) (by omega) (by omega) (by omega)) ?_
            refine And.intro (show 0 ≤ 1 ∧ 1 ≤ 1 from by omega) ?_
            have eL : qline x S = qNew x 1 6 6 S := (if_neg (by rw [i0]; exact Bool.false_ne_true)).trans (if_pos i1)
            exact rRs_d hK (eL.trans (show qNew x 1 6 6 S = (0, qst 1 ((qfr x (6 + S.2.1 1) (qadv x S)).2.2.1 1 + 1) (qfr x (6 + S.2.1 1) (qadv x S)).2) from (if_neg (by omega)).trans (if_pos c4))) (rT_t T4 (by decide)) (show rTb (qst 1 ((qfr x (6 + S.2.1 1) (qadv x S)).2.2.1 1 + 1) (qfr x (6 + S.2.1 1) (qadv x S)).2) _ from by rw [← B4.1 1 (by omega)]; exact rTb_st B4) (rgl_t g4 (by decide))
        · refine And.intro (by omega) ?_
          refine And.intro (show 0 ≤ 0 ∧ 0 ≤ 1 from by omega) ?_
          have eL : qline x S = qNew x 1 6 6 S := (if_neg (by rw [i0]; exact Bool.false_ne_true)).trans (if_pos i1)
          exact rRs_f hK (eL.trans (show qNew x 1 6 6 S = (4, S) from if_pos (by omega))) (by decide) (rFl_bad hT) (rg_l rg_bad)
      · have i1 : qIs x S 478745093490 = false := Bool.eq_false_iff.mpr (fun q => t5 ((qIs_w hT).mp q))
        refine And.intro (fun _ => ?_) (fun (q : ¬ 0 = 0) => absurd q (by decide))
        refine fun z (t9 : (z = 1 ∧ σ 12 11 = 1 ∧ σ 12 17 = 1919905645) ∨ (z = 0 ∧ ¬ (σ 12 11 = 1 ∧ σ 12 17 = 1919905645))) => ?_
        rcases t9 with ⟨rfl, t9⟩ | ⟨rfl, t9⟩
        · have i2 : qIs x S 1919905645 = true := (qIs_w hT).mpr t9
          have hk4 : ¬ qkd x.1 x.2.1 x.2.2 S.1 = 4 := by rw [← hT.2.1.1]; omega
          refine And.intro (fun (q : 1 = 0) => absurd q (by decide)) (fun _ => ?_)
          refine And.intro (show 0 ≤ 2 ∧ 2 < 179 from by omega) ?_
          have f10 : 0 ≤ σ 53 2 ∧ σ 53 2 ≤ 12 := zbL B hb (t := 53) (a := 2) (n := 3) (i := 2) (by decide +kernel) (by omega) (by omega)
          refine And.intro (fun (c11 : ¬ (σ 53 2) = 12) => ?_) (fun (c12 : (σ 53 2) = 12) => ?_)
          · refine fun (σ5 : vS) f5 t5 => ?_
            have T5 : rT x (qnx x.1 x.2.1 S.1) σ5 := rT_next hT hk4 (lim_ok B hb hT.1).1 f5 t5
            have B5 : rTb S σ5 := rTb_fr (σ := σ) hTb (f5.1 53 (by decide)) (f5.1 55 (by decide))
            have g5 : rgl σ σ5 := rgl_tr (σ1 := σ) rgl_refl (rg_l (rg_of f5))
            have b50 : σ5 53 0 = S.2.1 0 := B5.1 0 (by omega)
            have b51 : σ5 53 1 = S.2.1 1 := B5.1 1 (by omega)
            have b52 : σ5 53 2 = S.2.1 2 := B5.1 2 (by omega)
            have b53 : σ5 53 3 = S.2.1 3 := B5.1 3 (by omega)
            refine And.intro (show -2147483648 ≤ (36 + (σ 53 2)) ∧ (36 + (σ 53 2)) ≤ 2147483647 from by omega) ?_
            have to6 : (36 + (σ 53 2)) - 24 = 12 + S.2.1 2 := by have := B5.1 2 (by omega); have : (qadv x S).2.1 2 = S.2.1 2 := rfl; omega
            refine ⟨(show 24 ≤ 36 + (σ 53 2) ∧ 36 + (σ 53 2) < 48 from by omega), x, (qadv x S), T5, B5, hSa, fun c6 σ6 F6 G6 => ?_, fun c6 σ6 T6 B6 G6 => ?_⟩
            · rw [to6] at c6 F6
              refine And.intro (fun _ => ?_) (fun (q : ¬ 0 = 0) => absurd q (by decide))
              refine And.intro (show 0 ≤ 0 ∧ 0 ≤ 1 from by omega) ?_
              have eL : qline x S = qRoom x S := (if_neg (by rw [i0]; exact Bool.false_ne_true)).trans ((if_neg (by rw [i1]; exact Bool.false_ne_true)).trans (if_pos i2))
              exact rRs_f hK (eL.trans (show qRoom x S = ((qfr x (12 + S.2.1 2) (qadv x S)).1, (qfr x (12 + S.2.1 2) (qadv x S)).2) from (if_neg (by omega)).trans (if_neg c6))) c6 F6 (rgl_tr g5 (rg_l G6))
            · rw [to6] at c6 T6 B6
              have h6 : (qfr x (12 + S.2.1 2) (qadv x S)).2.2.1 = S.2.1 := qfr_h c6
              have g6 : rgl σ σ6 := rgl_tr g5 G6
              have b60 : σ6 53 0 = S.2.1 0 := (B6.1 0 (by omega)).trans (congrFun h6 0)
              have b61 : σ6 53 1 = S.2.1 1 := (B6.1 1 (by omega)).trans (congrFun h6 1)
              have b62 : σ6 53 2 = S.2.1 2 := (B6.1 2 (by omega)).trans (congrFun h6 2)
              have b63 : σ6 53 3 = S.2.1 3 := (B6.1 3 (by omega)).trans (congrFun h6 3)
              refine And.intro (fun (q : 1 = 0) => absurd q (by decide)) (fun _ => ?_)
              refine And.intro (show 0 ≤ 0 ∧ 0 < 179 from by omega) ?_
              have Bb7 : rTb (qfr x (12 + S.2.1 2) (qadv x S)).2 σ6 := B6
              have m7 : σ6 53 0 = S.2.1 0 := (Bb7.1 0 (by omega)).trans (congrFun h6 0)
              have l7 : qlf x (σ6 55) 24 (σ6 53 0) (qfr x (12 + S.2.1 2) (qadv x S)).2.1 = (qlk x 0 (S.2.1 0) (qfr x (12 + S.2.1 2) (qadv x S)).2) := by
                rw [m7]
                exact qlf_sh (by omega) (fun i i0 i1 => by rw [show (24 : Int) + i = 24 + (0 + i) by omega]; exact Bb7.2 (0 + i) (by omega) (by omega))
              have j7 : (qlk x 0 (S.2.1 0) (qfr x (12 + S.2.1 2) (qadv x S)).2) < S.2.1 0 := qlk_b (by omega)
              have jj7 : -3 ≤ (qlk x 0 (S.2.1 0) (qfr x (12 + S.2.1 2) (qadv x S)).2) := qlk_m (by omega)
              refine ⟨(show ((0 : Int) ≤ 24 ∧ 0 ≤ (σ6 53 0)) ∧ 24 + (σ6 53 0) ≤ 48 from by omega), x, (qfr x (12 + S.2.1 2) (qadv x S)).2.1, T6, fun (c7 : qlf x (σ6 55) 24 (σ6 53 0) (qfr x (12 + S.2.1 2) (qadv x S)).2.1 < 0) (σ7 : vS) (F7 : rFl x (-(qlf x (σ6 55) 24 (σ6 53 0) (qfr x (12 + S.2.1 2) (qadv x S)).2.1)) (qfr x (12 + S.2.1 2) (qadv x S)).2.1 σ7) (G7 : rg σ6 σ7) => ?_, fun (c7 : 0 ≤ qlf x (σ6 55) 24 (σ6 53 0) (qfr x (12 + S.2.1 2) (qadv x S)).2.1) (σ7 : vS) T7 (G7 : rg σ6 σ7) (E7 : σ7 12 18 = qlf x (σ6 55) 24 (σ6 53 0) (qfr x (12 + S.2.1 2) (qadv x S)).2.1) => ?_⟩
              · rw [l7] at c7 F7
                refine And.intro (fun (q : ¬ 0 = 0) => absurd q (by decide)) (fun _ => ?_)
                refine And.intro (show 0 ≤ 0 ∧ 0 ≤ 1 from by omega) ?_
                have eL : qline x S = qRoom x S := (if_neg (by rw [i0]; exact Bool.false_ne_true)).trans ((if_neg (by rw [i1]; exact Bool.false_ne_true)).trans (if_pos i2))
                have q0 : (qfr x (12 + S.2.1 2) (qadv x S)).2.2.1 0 = S.2.1 0 := congrFun h6 0
                have q1 : (qfr x (12 + S.2.1 2) (qadv x S)).2.2.1 1 = S.2.1 1 := congrFun h6 1
                have q2 : (qfr x (12 + S.2.1 2) (qadv x S)).2.2.1 2 = S.2.1 2 := congrFun h6 2
                have eM : qRoom x S = qtn x 0 (S.2.1 0) (qfr x (12 + S.2.1 2) (qadv x S)).2 (fun _ S1 => qtn x 6 (S.2.1 1) (qadv x S1) (fun _ S2 => (0, qst 2 (S.2.1 2 + 1) (qadv x S2)))) := by
                  refine (if_neg (by omega)).trans ((if_pos c6).trans ?_)
                  show qtn x 0 ((qfr x (12 + S.2.1 2) (qadv x S)).2.2.1 0) (qfr x (12 + S.2.1 2) (qadv x S)).2 _ = _
                  rw [q0]
                  exact qtn_cg (fun r1 => by
                    show qtn x 6 ((qfr x (12 + S.2.1 2) (qadv x S)).2.2.1 1) (qadv x (qfr x (12 + S.2.1 2) (qadv x S)).2) _ = _
                    rw [q1]
                    exact qtn_cg (fun r2 => by
                      show (0, qst 2 ((qfr x (12 + S.2.1 2) (qadv x S)).2.2.1 2 + 1) (qadv x (qadv x (qfr x (12 + S.2.1 2) (qadv x S)).2))) = _
                      rw [q2]))
                exact rRs_f hK (eL.trans (eM.trans (qtn_f (show (qlk x 0 (S.2.1 0) (qfr x (12 + S.2.1 2) (qadv x S)).2) < 0 from c7)))) (by omega) F7 (rgl_tr g6 (rg_l G7))
              · rw [l7] at c7 E7
                have B7 : rTb (qfr x (12 + S.2.1 2) (qadv x S)).2 σ7 := rTb_fr (σ := σ6) Bb7 (G7.1 53 (by decide)) (G7.1 55 (by decide))
                have g7 : rgl σ σ7 := rgl_tr (σ1 := σ6) g6 (rg_l G7)
                have b70 : σ7 53 0 = S.2.1 0 := (B7.1 0 (by omega)).trans (congrFun h6 0)
                have b71 : σ7 53 1 = S.2.1 1 := (B7.1 1 (by omega)).trans (congrFun h6 1)
                have b72 : σ7 53 2 = S.2.1 2 := (B7.1 2 (by omega)).trans (congrFun h6 2)
                have b73 : σ7 53 3 = S.2.1 3 := (B7.1 3 (by omega)).trans (congrFun h6 3)
                refine And.intro (fun _ => ?_) (fun (q : 1 = 0) => absurd q (by decide))
                refine And.intro (show -2147483648 ≤ (5 + (σ 53 2)) ∧ (5 + (σ 53 2)) ≤ 2147483647 from by omega) ?_
                refine And.intro (show 0 ≤ (5 + (σ 53 2)) ∧ (5 + (σ 53 2)) < 179 from by omega) ?_
                refine And.intro (show vRg (zrg 53) (5 + (σ 53 2)) (σ7 12 18) from rg53 (a := 5) (b := 17) (lo := 0) (hi := 5) (by decide +kernel) (by omega) (by omega) (by omega)) ?_
                refine And.intro (show 0 ≤ 1 ∧ 1 < 179 from by omega) ?_
                have Bb8 : rTb (qadv x (qfr x (12 + S.2.1 2) (qadv x S)).2) (vup σ7 53 (5 + (σ 53 2)) (σ7 12 18)) := (rTb_ig B7 (by omega))
                have m8 : (vup σ7 53 (5 + (σ 53 2)) (σ7 12 18)) 53 1 = S.2.1 1 := (Bb8.1 1 (by omega)).trans (congrFun h6 1)
                have l8 : qlf x ((vup σ7 53 (5 + (σ 53 2)) (σ7 12 18)) 55) 30 ((vup σ7 53 (5 + (σ 53 2)) (σ7 12 18)) 53 1) (qadv x (qfr x (12 + S.2.1 2) (qadv x S)).2).1 = (qlk x 6 (S.2.1 1) (qadv x (qfr x (12 + S.2.1 2) (qadv x S)).2)) := by
                  rw [m8]
                  exact qlf_sh (by omega) (fun i i0 i1 => by rw [show (30 : Int) + i = 24 + (6 + i) by omega]; exact Bb8.2 (6 + i) (by omega) (by omega))
                have j8 : (qlk x 6 (S.2.1 1) (qadv x (qfr x (12 + S.2.1 2) (qadv x S)).2)) < S.2.1 1 := qlk_b (by omega)
                have jj8 : -3 ≤ (qlk x 6 (S.2.1 1) (qadv x (qfr x (12 + S.2.1 2) (qadv x S)).2)) := qlk_m (by omega)
                refine ⟨(show ((0 : Int) ≤ 30 ∧ 0 ≤ ((vup σ7 53 (5 + (σ 53 2)) (σ7 12 18)) 53 1)) ∧ 30 + ((vup σ7 53 (5 + (σ 53 2)) (σ7 12 18)) 53 1) ≤ 48 from by omega), x, (qadv x (qfr x (12 + S.2.1 2) (qadv x S)).2).1, (rT_t T7 (by decide)), fun (c8 : qlf x ((vup σ7 53 (5 + (σ 53 2)) (σ7 12 18)) 55) 30 ((vup σ7 53 (5 + (σ 53 2)) (σ7 12 18)) 53 1) (qadv x (qfr x (12 + S.2.1 2) (qadv x S)).2).1 < 0) (σ8 : vS) (F8 : rFl x (-(qlf x ((vup σ7 53 (5 + (σ 53 2)) (σ7 12 18)) 55) 30 ((vup σ7 53 (5 + (σ 53 2)) (σ7 12 18)) 53 1) (qadv x (qfr x (12 + S.2.1 2) (qadv x S)).2).1)) (qadv x (qfr x (12 + S.2.1 2) (qadv x S)).2).1 σ8) (G8 : rg (vup σ7 53 (5 + (σ 53 2)) (σ7 12 18)) σ8) => ?_, fun (c8 : 0 ≤ qlf x ((vup σ7 53 (5 + (σ 53 2)) (σ7 12 18)) 55) 30 ((vup σ7 53 (5 + (σ 53 2)) (σ7 12 18)) 53 1) (qadv x (qfr x (12 + S.2.1 2) (qadv x S)).2).1) (σ8 : vS) T8 (G8 : rg (vup σ7 53 (5 + (σ 53 2)) (σ7 12 18)) σ8) (E8 : σ8 12 18 = qlf x ((vup σ7 53 (5 + (σ 53 2)) (σ7 12 18)) 55) 30 ((vup σ7 53 (5 + (σ 53 2)) (σ7 12 18)) 53 1) (qadv x (qfr x (12 + S.2.1 2) (qadv x S)).2).1) => ?_⟩
                · rw [l8] at c8 F8
                  refine And.intro (fun (q : ¬ 0 = 0) => absurd q (by decide)) (fun _ => ?_)
                  refine And.intro (show 0 ≤ 0 ∧ 0 ≤ 1 from by omega) ?_
                  have eL : qline x S = qRoom x S := (if_neg (by rw [i0]; exact Bool.false_ne_true)).trans ((if_neg (by rw [i1]; exact Bool.false_ne_true)).trans (if_pos i2))
                  have q0 : (qfr x (12 + S.2.1 2) (qadv x S)).2.2.1 0 = S.2.1 0 := congrFun h6 0
                  have q1 : (qfr x (12 + S.2.1 2) (qadv x S)).2.2.1 1 = S.2.1 1 := congrFun h6 1
                  have q2 : (qfr x (12 + S.2.1 2) (qadv x S)).2.2.1 2 = S.2.1 2 := congrFun h6 2
                  have eM : qRoom x S = qtn x 0 (S.2.1 0) (qfr x (12 + S.2.1 2) (qadv x S)).2 (fun _ S1 => qtn x 6 (S.2.1 1) (qadv x S1) (fun _ S2 => (0, qst 2 (S.2.1 2 + 1) (qadv x S2)))) := by
                    refine (if_neg (by omega)).trans ((if_pos c6).trans ?_)
                    show qtn x 0 ((qfr x (12 + S.2.1 2) (qadv x S)).2.2.1 0) (qfr x (12 + S.2.1 2) (qadv x S)).2 _ = _
                    rw [q0]
                    exact qtn_cg (fun r1 => by
                      show qtn x 6 ((qfr x (12 + S.2.1 2) (qadv x S)).2.2.1 1) (qadv x (qfr x (12 + S.2.1 2) (qadv x S)).2) _ = _
                      rw [q1]
                      exact qtn_cg (fun r2 => by
                        show (0, qst 2 ((qfr x (12 + S.2.1 2) (qadv x S)).2.2.1 2 + 1) (qadv x (qadv x (qfr x (12 + S.2.1 2) (qadv x S)).2))) = _
                        rw [q2]))
                  exact rRs_f hK (eL.trans (eM.trans ((qtn_k (show 0 ≤ (qlk x 0 (S.2.1 0) (qfr x (12 + S.2.1 2) (qadv x S)).2) from c7)).trans (qtn_f (show (qlk x 6 (S.2.1 1) (qadv x (qfr x (12 + S.2.1 2) (qadv x S)).2)) < 0 from c8))))) (by omega) F8 (rgl_tr (rgl_t g7 (by decide)) (rg_l G8))
                · rw [l8] at c8 E8
                  have B8 : rTb (qadv x (qfr x (12 + S.2.1 2) (qadv x S)).2) σ8 := rTb_fr (σ := (vup σ7 53 (5 + (σ 53 2)) (σ7 12 18))) Bb8 (G8.1 53 (by decide)) (G8.1 55 (by decide))
                  have g8 : rgl σ σ8 := rgl_tr (σ1 := (vup σ7 53 (5 + (σ 53 2)) (σ7 12 18))) (rgl_t g7 (by decide)) (rg_l G8)
                  have b80 : σ8 53 0 = S.2.1 0 := (B8.1 0 (by omega)).trans (congrFun h6 0)
                  have b81 : σ8 53 1 = S.2.1 1 := (B8.1 1 (by omega)).trans (congrFun h6 1)
                  have b82 : σ8 53 2 = S.2.1 2 := (B8.1 2 (by omega)).trans (congrFun h6 2)
                  have b83 : σ8 53 3 = S.2.1 3 := (B8.1 3 (by omega)).trans (congrFun h6 3)
                  have v2 : (vup σ8 53 (17 + σ 53 2) (σ8 12 18 + 1)) 53 2 = σ8 53 2 := vup_ne 53 2 (fun q => by have := q.2; omega)
                  refine And.intro (fun _ => ?_) (fun (q : 1 = 0) => absurd q (by decide))
                  refine And.intro (show -2147483648 ≤ (17 + (σ 53 2)) ∧ (17 + (σ 53 2)) ≤ 2147483647 from by omega) ?_
                  refine And.intro (show -2147483648 ≤ ((σ8 12 18) + 1) ∧ ((σ8 12 18) + 1) ≤ 2147483647 from by omega) ?_
                  refine And.intro (show 0 ≤ (17 + (σ 53 2)) ∧ (17 + (σ 53 2)) < 179 from by omega) ?_
                  refine And.intro (show vRg (zrg 53) (17 + (σ 53 2)) ((σ8 12 18) + 1) from rg53 (a := 17) (b := 29) (lo := 0) (hi := 6) (by decide +kernel) (by omega) (by omega) (by omega)) ?_
                  refine And.intro (show 0 ≤ 2 ∧ 2 < 179 from by omega) ?_
                  refine And.intro (show -2147483648 ≤ (((vup σ8 53 (17 + (σ 53 2)) ((σ8 12 18) + 1)) 53 2) + 1) ∧ (((vup σ8 53 (17 + (σ 53 2)) ((σ8 12 18) + 1)) 53 2) + 1) ≤ 2147483647 from by omega) ?_
                  refine And.intro (show 0 ≤ 2 ∧ 2 < 179 from by omega) ?_
                  refine And.intro (show vRg (zrg 53) 2 (((vup σ8 53 (17 + (σ 53 2)) ((σ8 12 18) + 1)) 53 2) + 1) from rg53 (a := 2) (b := 3) (lo := 0) (hi := 12) (by decide +kernel) (by omega) (by omega) (by omega)) ?_
                  refine And.intro (show 0 ≤ 1 ∧ 1 ≤ 1 from by omega) ?_
                  have eL : qline x S = qRoom x S := (if_neg (by rw [i0]; exact Bool.false_ne_true)).trans ((if_neg (by rw [i1]; exact Bool.false_ne_true)).trans (if_pos i2))
                  have q0 : (qfr x (12 + S.2.1 2) (qadv x S)).2.2.1 0 = S.2.1 0 := congrFun h6 0
                  have q1 : (qfr x (12 + S.2.1 2) (qadv x S)).2.2.1 1 = S.2.1 1 := congrFun h6 1
                  have q2 : (qfr x (12 + S.2.1 2) (qadv x S)).2.2.1 2 = S.2.1 2 := congrFun h6 2
                  have eM : qRoom x S = qtn x 0 (S.2.1 0) (qfr x (12 + S.2.1 2) (qadv x S)).2 (fun _ S1 => qtn x 6 (S.2.1 1) (qadv x S1) (fun _ S2 => (0, qst 2 (S.2.1 2 + 1) (qadv x S2)))) := by
                    refine (if_neg (by omega)).trans ((if_pos c6).trans ?_)
                    show qtn x 0 ((qfr x (12 + S.2.1 2) (qadv x S)).2.2.1 0) (qfr x (12 + S.2.1 2) (qadv x S)).2 _ = _
                    rw [q0]
                    exact qtn_cg (fun r1 => by
                      show qtn x 6 ((qfr x (12 + S.2.1 2) (qadv x S)).2.2.1 1) (qadv x (qfr x (12 + S.2.1 2) (qadv x S)).2) _ = _
                      rw [q1]
                      exact qtn_cg (fun r2 => by
                        show (0, qst 2 ((qfr x (12 + S.2.1 2) (qadv x S)).2.2.1 2 + 1) (qadv x (qadv x (qfr x (12 + S.2.1 2) (qadv x S)).2))) = _
                        rw [q2]))
                  refine rRs_d hK (eL.trans (eM.trans ((qtn_k (show 0 ≤ (qlk x 0 (S.2.1 0) (qfr x (12 + S.2.1 2) (qadv x S)).2) from c7)).trans (qtn_k (show 0 ≤ (qlk x 6 (S.2.1 1) (qadv x (qfr x (12 + S.2.1 2) (qadv x S)).2)) from c8))))) (rT_t (rT_t T8 (by decide)) (by decide)) ?_ (rgl_t (rgl_t g8 (by decide)) (by decide))
                  have bb := rTb_st (i := 2) (v := S.2.1 2 + 1) (rTb_ig (i := 17 + σ 53 2) (v := σ8 12 18 + 1) B8 (by omega))
                  have e2 : vup σ8 53 (17 + σ 53 2) (σ8 12 18 + 1) 53 2 + 1 = S.2.1 2 + 1 := by
                    rw [vup_ne 53 2 (fun q => by have := q.2; omega)]
                    omega
                  have bb2 : rTb (qst 2 (S.2.1 2 + 1) (qadv x (qadv x (qfr x (12 + S.2.1 2) (qadv x S)).2))) (vup (vup σ8 53 (17 + (σ 53 2)) ((σ8 12 18) + 1)) 53 2 (((vup σ8 53 (17 + (σ 53 2)) ((σ8 12 18) + 1)) 53 2) + 1)) := by
                    show rTb _ (vup (vup σ8 53 (17 + σ 53 2) (σ8 12 18 + 1)) 53 2 (vup σ8 53 (17 + σ 53 2) (σ8 12 18 + 1) 53 2 + 1))
                    rw [e2]
                    exact bb
                  exact bb2
          · refine And.intro (by omega) ?_
            refine And.intro (show 0 ≤ 0 ∧ 0 ≤ 1 from by omega) ?_
            have eL : qline x S = qRoom x S := (if_neg (by rw [i0]; exact Bool.false_ne_true)).trans ((if_neg (by rw [i1]; exact Bool.false_ne_true)).trans (if_pos i2))
            exact rRs_f hK (eL.trans (show qRoom x S = (4, S) from if_pos (by omega))) (by decide) (rFl_bad hT) (rg_l rg_bad)
        · have i2 : qIs x S 1919905645 = false := Bool.eq_false_iff.mpr (fun q => t9 ((qIs_w hT).mp q))
          refine And.intro (fun _ => ?_) (fun (q : ¬ 0 = 0) => absurd q (by decide))
          refine fun z (t13 : (z = 1 ∧ σ 12 11 = 1 ∧ σ 12 17 = 1685024626) ∨ (z = 0 ∧ ¬ (σ 12 11 = 1 ∧ σ 12 17 = 1685024626))) => ?_
          rcases t13 with ⟨rfl, t13⟩ | ⟨rfl, t13⟩
          · have i3 : qIs x S 1685024626 = true := (qIs_w hT).mpr t13
            have hk4 : ¬ qkd x.1 x.2.1 x.2.2 S.1 = 4 := by rw [← hT.2.1.1]; omega
            refine And.intro (fun _ => ?_) (fun (q : 1 = 0) => absurd q (by decide))
            refine fun z (t14 : (z = 1 ∧ σ 12 11 = 1 ∧ σ 12 17 = 1919902309) ∨ (z = 0 ∧ ¬ (σ 12 11 = 1 ∧ σ 12 17 = 1919902309))) => ?_
            rcases t14 with ⟨rfl, t14⟩ | ⟨rfl, t14⟩
            · have := (qIs_w hT).mp i3
              exfalso; omega
            · have i4 : qIs x S 1919902309 = false := Bool.eq_false_iff.mpr (fun q => t14 ((qIs_w hT).mp q))
              refine And.intro (fun _ => ?_) (fun (q : ¬ 0 = 0) => absurd q (by decide))
              refine ⟨by omega, x, S, hT, hk4, hTb, hS, fun c9 σ9 F9 G9 => ?_, fun c9 σ9 T9 B9 G9 => ?_⟩
              · refine And.intro (show 0 ≤ 0 ∧ 0 ≤ 1 from by omega) ?_
                have eL : qline x S = qPas x 0 S := (if_neg (by rw [i0]; exact Bool.false_ne_true)).trans ((if_neg (by rw [i1]; exact Bool.false_ne_true)).trans ((if_neg (by rw [i2]; exact Bool.false_ne_true)).trans (if_pos i3)))
                rw [eL] at hK
                exact hK.1 c9 _ F9 (rgl_tr rgl_refl G9)
              · refine And.intro (show 0 ≤ 1 ∧ 1 ≤ 1 from by omega) ?_
                have eL : qline x S = qPas x 0 S := (if_neg (by rw [i0]; exact Bool.false_ne_true)).trans ((if_neg (by rw [i1]; exact Bool.false_ne_true)).trans ((if_neg (by rw [i2]; exact Bool.false_ne_true)).trans (if_pos i3)))
                rw [eL] at hK
                exact hK.2 c9 _ T9 B9 (rgl_tr rgl_refl G9)
          · have i3 : qIs x S 1685024626 = false := Bool.eq_false_iff.mpr (fun q => t13 ((qIs_w hT).mp q))
            refine And.intro (fun (q : ¬ 0 = 0) => absurd q (by decide)) (fun _ => ?_)
            refine fun z (t15 : (z = 1 ∧ σ 12 11 = 1 ∧ σ 12 17 = 1919902309) ∨ (z = 0 ∧ ¬ (σ 12 11 = 1 ∧ σ 12 17 = 1919902309))) => ?_
            rcases t15 with ⟨rfl, t15⟩ | ⟨rfl, t15⟩
            · have i4 : qIs x S 1919902309 = true := (qIs_w hT).mpr t15
              have hk4 : ¬ qkd x.1 x.2.1 x.2.2 S.1 = 4 := by rw [← hT.2.1.1]; omega
              refine And.intro (fun (q : 1 = 0) => absurd q (by decide)) (fun _ => ?_)
              refine fun z (t16 : (z = 1 ∧ σ 12 11 = 1 ∧ σ 12 17 = 1919902309) ∨ (z = 0 ∧ ¬ (σ 12 11 = 1 ∧ σ 12 17 = 1919902309))) => ?_
              rcases t16 with ⟨rfl, t16⟩ | ⟨rfl, t16⟩
              · refine And.intro (fun (q : 1 = 0) => absurd q (by decide)) (fun _ => ?_)
                refine ⟨by omega, x, S, hT, hk4, hTb, hS, fun c10 σ10 F10 G10 => ?_, fun c10 σ10 T10 B10 G10 => ?_⟩
                · refine And.intro (show 0 ≤ 0 ∧ 0 ≤ 1 from by omega) ?_
                  have eL : qline x S = qPas x 1 S := (if_neg (by rw [i0]; exact Bool.false_ne_true)).trans ((if_neg (by rw [i1]; exact Bool.false_ne_true)).trans ((if_neg (by rw [i2]; exact Bool.false_ne_true)).trans ((if_neg (by rw [i3]; exact Bool.false_ne_true)).trans (if_pos i4))))
                  rw [eL] at hK
                  exact hK.1 c10 _ F10 (rgl_tr rgl_refl G10)
                · refine And.intro (show 0 ≤ 1 ∧ 1 ≤ 1 from by omega) ?_
                  have eL : qline x S = qPas x 1 S := (if_neg (by rw [i0]; exact Bool.false_ne_true)).trans ((if_neg (by rw [i1]; exact Bool.false_ne_true)).trans ((if_neg (by rw [i2]; exact Bool.false_ne_true)).trans ((if_neg (by rw [i3]; exact Bool.false_ne_true)).trans (if_pos i4))))
                  rw [eL] at hK
                  exact hK.2 c10 _ T10 B10 (rgl_tr rgl_refl G10)
              · exact absurd ((qIs_w hT).mp i4) t16
            · have i4 : qIs x S 1919902309 = false := Bool.eq_false_iff.mpr (fun q => t15 ((qIs_w hT).mp q))
              refine And.intro (fun _ => ?_) (fun (q : ¬ 0 = 0) => absurd q (by decide))
              refine fun z (t17 : (z = 1 ∧ σ 12 11 = 1 ∧ σ 12 17 = 24948) ∨ (z = 0 ∧ ¬ (σ 12 11 = 1 ∧ σ 12 17 = 24948))) => ?_
              rcases t17 with ⟨rfl, t17⟩ | ⟨rfl, t17⟩
              · have i5 : qIs x S 24948 = true := (qIs_w hT).mpr t17
                have hk4 : ¬ qkd x.1 x.2.1 x.2.2 S.1 = 4 := by rw [← hT.2.1.1]; omega
                refine And.intro (fun (q : 1 = 0) => absurd q (by decide)) (fun _ => ?_)
                refine And.intro (fun _ => ?_) (fun (q : 0 < 0) => absurd q (by decide))
                refine fun (σ11 : vS) f11 t11 => ?_
                have T11 : rT x (qnx x.1 x.2.1 S.1) σ11 := rT_next hT hk4 (lim_ok B hb hT.1).1 f11 t11
                have B11 : rTb S σ11 := rTb_fr (σ := σ) hTb (f11.1 53 (by decide)) (f11.1 55 (by decide))
                have g11 : rgl σ σ11 := rgl_tr (σ1 := σ) rgl_refl (rg_l (rg_of f11))
                have b110 : σ11 53 0 = S.2.1 0 := B11.1 0 (by omega)
                have b111 : σ11 53 1 = S.2.1 1 := B11.1 1 (by omega)
                have b112 : σ11 53 2 = S.2.1 2 := B11.1 2 (by omega)
                have b113 : σ11 53 3 = S.2.1 3 := B11.1 3 (by omega)
                refine And.intro (show 0 ≤ 1 ∧ 1 < 179 from by omega) ?_
                have m12 : σ11 53 1 = S.2.1 1 := B11.1 1 (by omega)
                have l12 : qlf x (σ11 55) 30 (σ11 53 1) (qadv x S).1 = (qlk x 6 (S.2.1 1) (qadv x S)) := by
                  rw [m12]
                  exact qlf_sh (by omega) (fun i i0 i1 => by rw [show (30 : Int) + i = 24 + (6 + i) by omega]; exact B11.2 (6 + i) (by omega) (by omega))
                have j12 : (qlk x 6 (S.2.1 1) (qadv x S)) < S.2.1 1 := qlk_b (by omega)
                have jj12 : -3 ≤ (qlk x 6 (S.2.1 1) (qadv x S)) := qlk_m (by omega)
                refine ⟨by omega, x, (qadv x S).1, T11, fun c12 σ12 F12 G12 => ?_, fun c12 σ12 T12 G12 P12 E12 => ?_⟩
                · rw [l12] at c12 F12
                  refine And.intro (fun (q : ¬ 0 = 0) => absurd q (by decide)) (fun _ => ?_)
                  refine And.intro (show 0 ≤ 0 ∧ 0 ≤ 1 from by omega) ?_
                  have eL : qline x S = qAt x S := (if_neg (by rw [i0]; exact Bool.false_ne_true)).trans ((if_neg (by rw [i1]; exact Bool.false_ne_true)).trans ((if_neg (by rw [i2]; exact Bool.false_ne_true)).trans ((if_neg (by rw [i3]; exact Bool.false_ne_true)).trans ((if_neg (by rw [i4]; exact Bool.false_ne_true)).trans (if_pos i5)))))
                  exact rRs_f hK (eL.trans (qAt_e.trans (qtn_f (show (qlk x 6 (S.2.1 1) (qadv x S)) < 0 from c12)))) (by omega) F12 (rgl_tr g11 (rg_l G12))
                · rw [l12] at c12 E12
                  have B12 : rTb (qadv x S) σ12 := rTb_fr B11 (G12.1 53 (by decide)) (G12.1 55 (by decide))
                  have g12 : rgl σ σ12 := rgl_tr g11 (rg_l G12)
                  refine And.intro (fun _ => ?_) (fun (q : 1 = 0) => absurd q (by decide))
                  refine And.intro (fun (q : ¬ 0 = 0) => absurd q (by decide)) (fun _ => ?_)
                  refine And.intro (show -2147483648 ≤ (89 + (σ12 12 18)) ∧ (89 + (σ12 12 18)) ≤ 2147483647 from by omega) ?_
                  refine And.intro (show 0 ≤ (89 + (σ12 12 18)) ∧ (89 + (σ12 12 18)) < 179 from by omega) ?_
                  refine And.intro (fun (c18 : 0 < (σ12 53 (89 + (σ12 12 18)))) => ?_) (fun (c19 : (σ12 53 (89 + (σ12 12 18))) ≤ 0) => ?_)
                  · refine And.intro (by omega) ?_
                    refine And.intro (show 0 ≤ 0 ∧ 0 ≤ 1 from by omega) ?_
                    have eL : qline x S = qAt x S := (if_neg (by rw [i0]; exact Bool.false_ne_true)).trans ((if_neg (by rw [i1]; exact Bool.false_ne_true)).trans ((if_neg (by rw [i2]; exact Bool.false_ne_true)).trans ((if_neg (by rw [i3]; exact Bool.false_ne_true)).trans ((if_neg (by rw [i4]; exact Bool.false_ne_true)).trans (if_pos i5)))))
                    exact rRs_f hK (eL.trans (qAt_e.trans ((qtn_k (show 0 ≤ (qlk x 6 (S.2.1 1) (qadv x S)) from c12)).trans (if_pos (show 0 < S.2.1 (89 + (qlk x 6 (S.2.1 1) (qadv x S))) by rw [← E12]; have := B12.1 (89 + σ12 12 18) (by omega); have e2 : (qadv x S).2.1 (89 + σ12 12 18) = S.2.1 (89 + σ12 12 18) := rfl; omega))))) (by decide) (rFl_bad T12) (rgl_tr g12 (rg_l rg_bad))
                  · refine And.intro (fun _ => ?_) (fun (q : 0 = 2) => absurd q (by decide))
                    refine fun (σ13 : vS) f13 t13 => ?_
                    have T13 : rT x (qnx x.1 x.2.1 (qadv x S).1) σ13 := rT_next T12 (by have := qnmp_k (qlk_n c12); omega) (lim_ok B hb hT.1).1 f13 t13
                    have B13 : rTb (qadv x S) σ13 := rTb_fr (σ := σ12) B12 (f13.1 53 (by decide)) (f13.1 55 (by decide))
                    have g13 : rgl σ σ13 := rgl_tr (σ1 := σ12) g12 (rg_l (rg_of f13))
                    have b130 : σ13 53 0 = S.2.1 0 := B13.1 0 (by omega)
                    have b131 : σ13 53 1 = S.2.1 1 := B13.1 1 (by omega)
                    have b132 : σ13 53 2 = S.2.1 2 := B13.1 2 (by omega)
                    have b133 : σ13 53 3 = S.2.1 3 := B13.1 3 (by omega)
                    refine And.intro (fun (q : 0 = 1) => absurd q (by decide)) (fun _ => ?_)
                    refine And.intro (fun _ => ?_) (fun (q : 0 = 2) => absurd q (by decide))
                    refine ⟨⟨(show 0 ≤ (σ12 12 18) ∧ (σ12 12 18) ≤ 5 from by omega), by omega⟩, x, (qadv x (qadv x S)), T13, B13, hSc, ?_⟩
                    rw [if_pos rfl]
                    refine ⟨fun c14 σ14 F14 G14 => ?_, fun c14 σ14 T14 B14 G14 => ?_⟩
                    · refine And.intro (show 0 ≤ 0 ∧ 0 ≤ 1 from by omega) ?_
                      have eL : qline x S = qAt x S := (if_neg (by rw [i0]; exact Bool.false_ne_true)).trans ((if_neg (by rw [i1]; exact Bool.false_ne_true)).trans ((if_neg (by rw [i2]; exact Bool.false_ne_true)).trans ((if_neg (by rw [i3]; exact Bool.false_ne_true)).trans ((if_neg (by rw [i4]; exact Bool.false_ne_true)).trans (if_pos i5)))))
                      rw [eL] at hK
                      have eQ : qAt x S = qAt2 x (qlk x 6 (S.2.1 1) (qadv x S)) (qadv x (qadv x S)) := by
                        rw [qAt_e]
                        exact (qtn_k (show 0 ≤ (qlk x 6 (S.2.1 1) (qadv x S)) from c12)).trans (if_neg (show ¬ 0 < S.2.1 (89 + (qlk x 6 (S.2.1 1) (qadv x S))) by rw [← E12]; have := B12.1 (89 + σ12 12 18) (by omega); have e2 : (qadv x S).2.1 (89 + σ12 12 18) = S.2.1 (89 + σ12 12 18) := rfl; omega))
                      rw [eQ, ← E12] at hK
                      exact hK.1 c14 _ F14 (rgl_tr g13 G14)
                    · refine And.intro (show 0 ≤ 1 ∧ 1 ≤ 1 from by omega) ?_
                      have eL : qline x S = qAt x S := (if_neg (by rw [i0]; exact Bool.false_ne_true)).trans ((if_neg (by rw [i1]; exact Bool.false_ne_true)).trans ((if_neg (by rw [i2]; exact Bool.false_ne_true)).trans ((if_neg (by rw [i3]; exact Bool.false_ne_true)).trans ((if_neg (by rw [i4]; exact Bool.false_ne_true)).trans (if_pos i5)))))
                      rw [eL] at hK
                      have eQ : qAt x S = qAt2 x (qlk x 6 (S.2.1 1) (qadv x S)) (qadv x (qadv x S)) := by
                        rw [qAt_e]
                        exact (qtn_k (show 0 ≤ (qlk x 6 (S.2.1 1) (qadv x S)) from c12)).trans (if_neg (show ¬ 0 < S.2.1 (89 + (qlk x 6 (S.2.1 1) (qadv x S))) by rw [← E12]; have := B12.1 (89 + σ12 12 18) (by omega); have e2 : (qadv x S).2.1 (89 + σ12 12 18) = S.2.1 (89 + σ12 12 18) := rfl; omega))
                      rw [eQ, ← E12] at hK
                      exact hK.2 c14 _ T14 B14 (rgl_tr g13 G14)
              · have i5 : qIs x S 24948 = false := Bool.eq_false_iff.mpr (fun q => t17 ((qIs_w hT).mp q))
                refine And.intro (fun _ => ?_) (fun (q : ¬ 0 = 0) => absurd q (by decide))
                refine fun z (t20 : (z = 1 ∧ σ 12 11 = 1 ∧ σ 12 17 = 465557354085) ∨ (z = 0 ∧ ¬ (σ 12 11 = 1 ∧ σ 12 17 = 465557354085))) => ?_
                rcases t20 with ⟨rfl, t20⟩ | ⟨rfl, t20⟩
                · have i6 : qIs x S 465557354085 = true := (qIs_w hT).mpr t20
                  have hk4 : ¬ qkd x.1 x.2.1 x.2.2 S.1 = 4 := by rw [← hT.2.1.1]; omega
                  refine And.intro (fun (q : 1 = 0) => absurd q (by decide)) (fun _ => ?_)
                  refine And.intro (fun _ => ?_) (fun (q : 1 < 0) => absurd q (by decide))
                  refine fun (σ15 : vS) f15 t15 => ?_
                  have T15 : rT x (qnx x.1 x.2.1 S.1) σ15 := rT_next hT hk4 (lim_ok B hb hT.1).1 f15 t15
                  have B15 : rTb S σ15 := rTb_fr (σ := σ) hTb (f15.1 53 (by decide)) (f15.1 55 (by decide))
                  have g15 : rgl σ σ15 := rgl_tr (σ1 := σ) rgl_refl (rg_l (rg_of f15))
                  have b150 : σ15 53 0 = S.2.1 0 := B15.1 0 (by omega)
                  have b151 : σ15 53 1 = S.2.1 1 := B15.1 1 (by omega)
                  have b152 : σ15 53 2 = S.2.1 2 := B15.1 2 (by omega)
                  have b153 : σ15 53 3 = S.2.1 3 := B15.1 3 (by omega)
                  refine And.intro (show 0 ≤ 1 ∧ 1 < 179 from by omega) ?_
                  have m16 : σ15 53 1 = S.2.1 1 := B15.1 1 (by omega)
                  have l16 : qlf x (σ15 55) 30 (σ15 53 1) (qadv x S).1 = (qlk x 6 (S.2.1 1) (qadv x S)) := by
                    rw [m16]
                    exact qlf_sh (by omega) (fun i i0 i1 => by rw [show (30 : Int) + i = 24 + (6 + i) by omega]; exact B15.2 (6 + i) (by omega) (by omega))
                  have j16 : (qlk x 6 (S.2.1 1) (qadv x S)) < S.2.1 1 := qlk_b (by omega)
                  have jj16 : -3 ≤ (qlk x 6 (S.2.1 1) (qadv x S)) := qlk_m (by omega)
                  refine ⟨by omega, x, (qadv x S).1, T15, fun c16 σ16 F16 G16 => ?_, fun c16 σ16 T16 G16 P16 E16 => ?_⟩
                  · rw [l16] at c16 F16
                    refine And.intro (fun (q : ¬ 0 = 0) => absurd q (by decide)) (fun _ => ?_)
                    refine And.intro (show 0 ≤ 0 ∧ 0 ≤ 1 from by omega) ?_
                    have eL : qline x S = qLet x S := (if_neg (by rw [i0]; exact Bool.false_ne_true)).trans ((if_neg (by rw [i1]; exact Bool.false_ne_true)).trans ((if_neg (by rw [i2]; exact Bool.false_ne_true)).trans ((if_neg (by rw [i3]; exact Bool.false_ne_true)).trans ((if_neg (by rw [i4]; exact Bool.false_ne_true)).trans ((if_neg (by rw [i5]; exact Bool.false_ne_true)).trans (if_pos i6))))))
                    exact rRs_f hK (eL.trans (qLet_e.trans (qtn_f (show (qlk x 6 (S.2.1 1) (qadv x S)) < 0 from c16)))) (by omega) F16 (rgl_tr g15 (rg_l G16))
                  · rw [l16] at c16 E16
                    have B16 : rTb (qadv x S) σ16 := rTb_fr B15 (G16.1 53 (by decide)) (G16.1 55 (by decide))
                    have g16 : rgl σ σ16 := rgl_tr g15 (rg_l G16)
                    refine And.intro (fun _ => ?_) (fun (q : 1 = 0) => absurd q (by decide))
                    refine And.intro (fun _ => ?_) (fun (q : 1 = 0) => absurd q (by decide))
                    refine And.intro (fun _ => ?_) (fun (q : 1 = 2) => absurd q (by decide))
                    refine fun (σ17 : vS) f17 t17 => ?_
                    have T17 : rT x (qnx x.1 x.2.1 (qadv x S).1) σ17 := rT_next T16 (by have := qnmp_k (qlk_n c16); omega) (lim_ok B hb hT.1).1 f17 t17
                    have B17 : rTb (qadv x S) σ17 := rTb_fr (σ := σ16) B16 (f17.1 53 (by decide)) (f17.1 55 (by decide))
                    have g17 : rgl σ σ17 := rgl_tr (σ1 := σ16) g16 (rg_l (rg_of f17))
                    have b170 : σ17 53 0 = S.2.1 0 := B17.1 0 (by omega)
                    have b171 : σ17 53 1 = S.2.1 1 := B17.1 1 (by omega)
                    have b172 : σ17 53 2 = S.2.1 2 := B17.1 2 (by omega)
                    have b173 : σ17 53 3 = S.2.1 3 := B17.1 3 (by omega)
                    refine And.intro (fun _ => ?_) (fun (q : ¬ 1 = 1) => absurd q (by decide))
                    refine ⟨⟨(show 0 ≤ (σ16 12 18) ∧ (σ16 12 18) ≤ 5 from by omega), by omega⟩, x, (qadv x (qadv x S)), T17, B17, hSc, ?_⟩
                    rw [if_pos rfl]
                    refine ⟨fun c18 σ18 F18 G18 => ?_, fun c18 σ18 T18 B18 G18 => ?_⟩
                    · refine And.intro (show 0 ≤ 0 ∧ 0 ≤ 1 from by omega) ?_
                      have eL : qline x S = qLet x S := (if_neg (by rw [i0]; exact Bool.false_ne_true)).trans ((if_neg (by rw [i1]; exact Bool.false_ne_true)).trans ((if_neg (by rw [i2]; exact Bool.false_ne_true)).trans ((if_neg (by rw [i3]; exact Bool.false_ne_true)).trans ((if_neg (by rw [i4]; exact Bool.false_ne_true)).trans ((if_neg (by rw [i5]; exact Bool.false_ne_true)).trans (if_pos i6))))))
                      rw [eL] at hK
                      have eQ : qLet x S = qLet2 x (qlk x 6 (S.2.1 1) (qadv x S)) (qadv x (qadv x S)) := by
                        rw [qLet_e]
                        exact qtn_k (show 0 ≤ (qlk x 6 (S.2.1 1) (qadv x S)) from c16)
                      rw [eQ, ← E16] at hK
                      exact hK.1 c18 _ F18 (rgl_tr g17 G18)
                    · refine And.intro (show 0 ≤ 1 ∧ 1 ≤ 1 from by omega) ?_
                      have eL : qline x S = qLet x S := (if_neg (by rw [i0]; exact Bool.false_ne_true)).trans ((if_neg (by rw [i1]; exact Bool.false_ne_true)).trans ((if_neg (by rw [i2]; exact Bool.false_ne_true)).trans ((if_neg (by rw [i3]; exact Bool.false_ne_true)).trans ((if_neg (by rw [i4]; exact Bool.false_ne_true)).trans ((if_neg (by rw [i5]; exact Bool.false_ne_true)).trans (if_pos i6))))))
                      rw [eL] at hK
                      have eQ : qLet x S = qLet2 x (qlk x 6 (S.2.1 1) (qadv x S)) (qadv x (qadv x S)) := by
                        rw [qLet_e]
                        exact qtn_k (show 0 ≤ (qlk x 6 (S.2.1 1) (qadv x S)) from c16)
                      rw [eQ, ← E16] at hK
                      exact hK.2 c18 _ T18 B18 (rgl_tr g17 G18)
                · have i6 : qIs x S 465557354085 = false := Bool.eq_false_iff.mpr (fun q => t20 ((qIs_w hT).mp q))
                  refine And.intro (fun _ => ?_) (fun (q : ¬ 0 = 0) => absurd q (by decide))
                  refine fun z (t21 : (z = 1 ∧ σ 12 11 = 1 ∧ σ 12 17 = 1751476594) ∨ (z = 0 ∧ ¬ (σ 12 11 = 1 ∧ σ 12 17 = 1751476594))) => ?_
                  rcases t21 with ⟨rfl, t21⟩ | ⟨rfl, t21⟩
                  · have i7 : qIs x S 1751476594 = true := (qIs_w hT).mpr t21
                    have hk4 : ¬ qkd x.1 x.2.1 x.2.2 S.1 = 4 := by rw [← hT.2.1.1]; omega
                    refine And.intro (fun (q : 1 = 0) => absurd q (by decide)) (fun _ => ?_)
                    refine And.intro (fun _ => ?_) (fun (q : 2 < 0) => absurd q (by decide))
                    refine fun (σ19 : vS) f19 t19 => ?_
                    have T19 : rT x (qnx x.1 x.2.1 S.1) σ19 := rT_next hT hk4 (lim_ok B hb hT.1).1 f19 t19
                    have B19 : rTb S σ19 := rTb_fr (σ := σ) hTb (f19.1 53 (by decide)) (f19.1 55 (by decide))
                    have g19 : rgl σ σ19 := rgl_tr (σ1 := σ) rgl_refl (rg_l (rg_of f19))
                    have b190 : σ19 53 0 = S.2.1 0 := B19.1 0 (by omega)
                    have b191 : σ19 53 1 = S.2.1 1 := B19.1 1 (by omega)
                    have b192 : σ19 53 2 = S.2.1 2 := B19.1 2 (by omega)
                    have b193 : σ19 53 3 = S.2.1 3 := B19.1 3 (by omega)
                    refine And.intro (show 0 ≤ 1 ∧ 1 < 179 from by omega) ?_
                    have m20 : σ19 53 1 = S.2.1 1 := B19.1 1 (by omega)
                    have l20 : qlf x (σ19 55) 30 (σ19 53 1) (qadv x S).1 = (qlk x 6 (S.2.1 1) (qadv x S)) := by
                      rw [m20]
                      exact qlf_sh (by omega) (fun i i0 i1 => by rw [show (30 : Int) + i = 24 + (6 + i) by omega]; exact B19.2 (6 + i) (by omega) (by omega))
                    have j20 : (qlk x 6 (S.2.1 1) (qadv x S)) < S.2.1 1 := qlk_b (by omega)
                    have jj20 : -3 ≤ (qlk x 6 (S.2.1 1) (qadv x S)) := qlk_m (by omega)
                    refine ⟨by omega, x, (qadv x S).1, T19, fun c20 σ20 F20 G20 => ?_, fun c20 σ20 T20 G20 P20 E20 => ?_⟩
                    · rw [l20] at c20 F20
                      refine And.intro (fun (q : ¬ 0 = 0) => absurd q (by decide)) (fun _ => ?_)
                      refine And.intro (show 0 ≤ 0 ∧ 0 ≤ 1 from by omega) ?_
                      have eL : qline x S = qHeir x S := (if_neg (by rw [i0]; exact Bool.false_ne_true)).trans ((if_neg (by rw [i1]; exact Bool.false_ne_true)).trans ((if_neg (by rw [i2]; exact Bool.false_ne_true)).trans ((if_neg (by rw [i3]; exact Bool.false_ne_true)).trans ((if_neg (by rw [i4]; exact Bool.false_ne_true)).trans ((if_neg (by rw [i5]; exact Bool.false_ne_true)).trans ((if_neg (by rw [i6]; exact Bool.false_ne_true)).trans (if_pos i7)))))))
                      exact rRs_f hK (eL.trans (qHeir_e.trans (qtn_f (show (qlk x 6 (S.2.1 1) (qadv x S)) < 0 from c20)))) (by omega) F20 (rgl_tr g19 (rg_l G20))
                    · rw [l20] at c20 E20
                      have B20 : rTb (qadv x S) σ20 := rTb_fr B19 (G20.1 53 (by decide)) (G20.1 55 (by decide))
                      have g20 : rgl σ σ20 := rgl_tr g19 (rg_l G20)
                      refine And.intro (fun _ => ?_) (fun (q : 1 = 0) => absurd q (by decide))
                      refine And.intro (fun _ => ?_) (fun (q : 2 = 0) => absurd q (by decide))
                      refine And.intro (fun (q : ¬ 2 = 2) => absurd q (by decide)) (fun _ => ?_)
                      refine And.intro (show -2147483648 ≤ (101 + (σ20 12 18)) ∧ (101 + (σ20 12 18)) ≤ 2147483647 from by omega) ?_
                      refine And.intro (show 0 ≤ (101 + (σ20 12 18)) ∧ (101 + (σ20 12 18)) < 179 from by omega) ?_
                      refine And.intro (fun (c22 : (σ20 53 (101 + (σ20 12 18))) ≤ 0) => ?_) (fun (c23 : 0 < (σ20 53 (101 + (σ20 12 18)))) => ?_)
                      · refine fun (σ21 : vS) f21 t21 => ?_
                        have T21 : rT x (qnx x.1 x.2.1 (qadv x S).1) σ21 := rT_next T20 (by have := qnmp_k (qlk_n c20); omega) (lim_ok B hb hT.1).1 f21 t21
                        have B21 : rTb (qadv x S) σ21 := rTb_fr (σ := σ20) B20 (f21.1 53 (by decide)) (f21.1 55 (by decide))
                        have g21 : rgl σ σ21 := rgl_tr (σ1 := σ20) g20 (rg_l (rg_of f21))
                        have b210 : σ21 53 0 = S.2.1 0 := B21.1 0 (by omega)
                        have b211 : σ21 53 1 = S.2.1 1 := B21.1 1 (by omega)
                        have b212 : σ21 53 2 = S.2.1 2 := B21.1 2 (by omega)
                        have b213 : σ21 53 3 = S.2.1 3 := B21.1 3 (by omega)
                        refine And.intro (fun (q : 2 = 1) => absurd q (by decide)) (fun _ => ?_)
                        refine And.intro (fun (q : ¬ 2 = 2) => absurd q (by decide)) (fun _ => ?_)
                        refine ⟨⟨(show 0 ≤ (σ20 12 18) ∧ (σ20 12 18) ≤ 5 from by omega), by omega⟩, x, (qadv x (qadv x S)), T21, B21, hSc, ?_⟩
                        rw [if_neg (by decide)]
                        refine ⟨fun c22 σ22 F22 G22 => ?_, fun c22 σ22 T22 B22 G22 => ?_⟩
                        · refine And.intro (show 0 ≤ 0 ∧ 0 ≤ 1 from by omega) ?_
                          have eL : qline x S = qHeir x S := (if_neg (by rw [i0]; exact Bool.false_ne_true)).trans ((if_neg (by rw [i1]; exact Bool.false_ne_true)).trans ((if_neg (by rw [i2]; exact Bool.false_ne_true)).trans ((if_neg (by rw [i3]; exact Bool.false_ne_true)).trans ((if_neg (by rw [i4]; exact Bool.false_ne_true)).trans ((if_neg (by rw [i5]; exact Bool.false_ne_true)).trans ((if_neg (by rw [i6]; exact Bool.false_ne_true)).trans (if_pos i7)))))))
                          rw [eL] at hK
                          have eQ : qHeir x S = qHeir2 x (qlk x 6 (S.2.1 1) (qadv x S)) (qadv x (qadv x S)) := by
                            rw [qHeir_e]
                            exact (qtn_k (show 0 ≤ (qlk x 6 (S.2.1 1) (qadv x S)) from c20)).trans (if_neg (show ¬ 0 < S.2.1 (101 + (qlk x 6 (S.2.1 1) (qadv x S))) by rw [← E20]; have := B20.1 (101 + σ20 12 18) (by omega); have e2 : (qadv x S).2.1 (101 + σ20 12 18) = S.2.1 (101 + σ20 12 18) := rfl; omega))
                          rw [eQ, ← E20] at hK
                          exact hK.1 c22 _ F22 (rgl_tr g21 G22)
                        · refine And.intro (show 0 ≤ 1 ∧ 1 ≤ 1 from by omega) ?_
                          have eL : qline x S = qHeir x S := (if_neg (by rw [i0]; exact Bool.false_ne_true)).trans ((if_neg (by rw [i1]; exact Bool.false_ne_true)).trans ((if_neg (by rw [i2]; exact Bool.false_ne_true)).trans ((if_neg (by rw [i3]; exact Bool.false_ne_true)).trans ((if_neg (by rw [i4]; exact Bool.false_ne_true)).trans ((if_neg (by rw [i5]; exact Bool.false_ne_true)).trans ((if_neg (by rw [i6]; exact Bool.false_ne_true)).trans (if_pos i7)))))))
                          rw [eL] at hK
                          have eQ : qHeir x S = qHeir2 x (qlk x 6 (S.2.1 1) (qadv x S)) (qadv x (qadv x S)) := by
                            rw [qHeir_e]
                            exact (qtn_k (show 0 ≤ (qlk x 6 (S.2.1 1) (qadv x S)) from c20)).trans (if_neg (show ¬ 0 < S.2.1 (101 + (qlk x 6 (S.2.1 1) (qadv x S))) by rw [← E20]; have := B20.1 (101 + σ20 12 18) (by omega); have e2 : (qadv x S).2.1 (101 + σ20 12 18) = S.2.1 (101 + σ20 12 18) := rfl; omega))
                          rw [eQ, ← E20] at hK
                          exact hK.2 c22 _ T22 B22 (rgl_tr g21 G22)
                      · refine And.intro (by omega) ?_
                        refine And.intro (show 0 ≤ 0 ∧ 0 ≤ 1 from by omega) ?_
                        have eL : qline x S = qHeir x S := (if_neg (by rw [i0]; exact Bool.false_ne_true)).trans ((if_neg (by rw [i1]; exact Bool.false_ne_true)).trans ((if_neg (by rw [i2]; exact Bool.false_ne_true)).trans ((if_neg (by rw [i3]; exact Bool.false_ne_true)).trans ((if_neg (by rw [i4]; exact Bool.false_ne_true)).trans ((if_neg (by rw [i5]; exact Bool.false_ne_true)).trans ((if_neg (by rw [i6]; exact Bool.false_ne_true)).trans (if_pos i7)))))))
                        exact rRs_f hK (eL.trans (qHeir_e.trans ((qtn_k (show 0 ≤ (qlk x 6 (S.2.1 1) (qadv x S)) from c20)).trans (if_pos (show 0 < S.2.1 (101 + (qlk x 6 (S.2.1 1) (qadv x S))) by rw [← E20]; have := B20.1 (101 + σ20 12 18) (by omega); have e2 : (qadv x S).2.1 (101 + σ20 12 18) = S.2.1 (101 + σ20 12 18) := rfl; omega))))) (by decide) (rFl_bad T20) (rgl_tr g20 (rg_l rg_bad))
                  · have i7 : qIs x S 1751476594 = false := Bool.eq_false_iff.mpr (fun q => t21 ((qIs_w hT).mp q))
                    refine And.intro (fun _ => ?_) (fun (q : ¬ 0 = 0) => absurd q (by decide))
                    refine fun z (t24 : (z = 1 ∧ σ 12 11 = 1 ∧ σ 12 17 = 465625113971) ∨ (z = 0 ∧ ¬ (σ 12 11 = 1 ∧ σ 12 17 = 465625113971))) => ?_
                    rcases t24 with ⟨rfl, t24⟩ | ⟨rfl, t24⟩
                    · have i8 : qIs x S 465625113971 = true := (qIs_w hT).mpr t24
                      have hk4 : ¬ qkd x.1 x.2.1 x.2.2 S.1 = 4 := by rw [← hT.2.1.1]; omega
                      refine And.intro (fun (q : 1 = 0) => absurd q (by decide)) (fun _ => ?_)
                      refine And.intro (fun _ => ?_) (fun (q : 3 < 0) => absurd q (by decide))
                      refine fun (σ23 : vS) f23 t23 => ?_
                      have T23 : rT x (qnx x.1 x.2.1 S.1) σ23 := rT_next hT hk4 (lim_ok B hb hT.1).1 f23 t23
                      have B23 : rTb S σ23 := rTb_fr (σ := σ) hTb (f23.1 53 (by decide)) (f23.1 55 (by decide))
                      have g23 : rgl σ σ23 := rgl_tr (σ1 := σ) rgl_refl (rg_l (rg_of f23))
                      have b230 : σ23 53 0 = S.2.1 0 := B23.1 0 (by omega)
                      have b231 : σ23 53 1 = S.2.1 1 := B23.1 1 (by omega)
                      have b232 : σ23 53 2 = S.2.1 2 := B23.1 2 (by omega)
                      have b233 : σ23 53 3 = S.2.1 3 := B23.1 3 (by omega)
                      refine And.intro (show 0 ≤ 1 ∧ 1 < 179 from by omega) ?_
                      have m24 : σ23 53 1 = S.2.1 1 := B23.1 1 (by omega)
                      have l24 : qlf x (σ23 55) 30 (σ23 53 1) (qadv x S).1 = (qlk x 6 (S.2.1 1) (qadv x S)) := by
                        rw [m24]
                        exact qlf_sh (by omega) (fun i i0 i1 => by rw [show (30 : Int) + i = 24 + (6 + i) by omega]; exact B23.2 (6 + i) (by omega) (by omega))
                      have j24 : (qlk x 6 (S.2.1 1) (qadv x S)) < S.2.1 1 := qlk_b (by omega)
                      have jj24 : -3 ≤ (qlk x 6 (S.2.1 1) (qadv x S)) := qlk_m (by omega)
                      refine ⟨by omega, x, (qadv x S).1, T23, fun c24 σ24 F24 G24 => ?_, fun c24 σ24 T24 G24 P24 E24 => ?_⟩
                      · rw [l24] at c24 F24
                        refine And.intro (fun (q : ¬ 0 = 0) => absurd q (by decide)) (fun _ => ?_)
                        refine And.intro (show 0 ≤ 0 ∧ 0 ≤ 1 from by omega) ?_
                        have eL : qline x S = qLike x S := (if_neg (by rw [i0]; exact Bool.false_ne_true)).trans ((if_neg (by rw [i1]; exact Bool.false_ne_true)).trans ((if_neg (by rw [i2]; exact Bool.false_ne_true)).trans ((if_neg (by rw [i3]; exact Bool.false_ne_true)).trans ((if_neg (by rw [i4]; exact Bool.false_ne_true)).trans ((if_neg (by rw [i5]; exact Bool.false_ne_true)).trans ((if_neg (by rw [i6]; exact Bool.false_ne_true)).trans ((if_neg (by rw [i7]; exact Bool.false_ne_true)).trans (if_pos i8))))))))
                        exact rRs_f hK (eL.trans (qLike_e.trans (qtn_f (show (qlk x 6 (S.2.1 1) (qadv x S)) < 0 from c24)))) (by omega) F24 (rgl_tr g23 (rg_l G24))
                      · rw [l24] at c24 E24
                        have B24 : rTb (qadv x S) σ24 := rTb_fr B23 (G24.1 53 (by decide)) (G24.1 55 (by decide))
                        have g24 : rgl σ σ24 := rgl_tr g23 (rg_l G24)
                        refine And.intro (fun _ => ?_) (fun (q : 1 = 0) => absurd q (by decide))
                        refine And.intro (fun _ => ?_) (fun (q : 3 = 0) => absurd q (by decide))
                        refine And.intro (fun _ => ?_) (fun (q : 3 = 2) => absurd q (by decide))
                        refine fun (σ25 : vS) f25 t25 => ?_
                        have T25 : rT x (qnx x.1 x.2.1 (qadv x S).1) σ25 := rT_next T24 (by have := qnmp_k (qlk_n c24); omega) (lim_ok B hb hT.1).1 f25 t25
                        have B25 : rTb (qadv x S) σ25 := rTb_fr (σ := σ24) B24 (f25.1 53 (by decide)) (f25.1 55 (by decide))
                        have g25 : rgl σ σ25 := rgl_tr (σ1 := σ24) g24 (rg_l (rg_of f25))
                        have b250 : σ25 53 0 = S.2.1 0 := B25.1 0 (by omega)
                        have b251 : σ25 53 1 = S.2.1 1 := B25.1 1 (by omega)
                        have b252 : σ25 53 2 = S.2.1 2 := B25.1 2 (by omega)
                        have b253 : σ25 53 3 = S.2.1 3 := B25.1 3 (by omega)
                        refine And.intro (fun (q : 3 = 1) => absurd q (by decide)) (fun _ => ?_)
                        refine And.intro (fun _ => ?_) (fun (q : 3 = 2) => absurd q (by decide))
                        refine ⟨⟨(show 0 ≤ (σ24 12 18) ∧ (σ24 12 18) ≤ 5 from by omega), by omega⟩, x, (qadv x (qadv x S)), T25, B25, hSc, ?_⟩
                        rw [if_neg (by decide)]
                        refine ⟨fun c26 σ26 F26 G26 => ?_, fun c26 σ26 T26 B26 G26 => ?_⟩
                        · refine And.intro (show 0 ≤ 0 ∧ 0 ≤ 1 from by omega) ?_
                          have eL : qline x S = qLike x S := (if_neg (by rw [i0]; exact Bool.false_ne_true)).trans ((if_neg (by rw [i1]; exact Bool.false_ne_true)).trans ((if_neg (by rw [i2]; exact Bool.false_ne_true)).trans ((if_neg (by rw [i3]; exact Bool.false_ne_true)).trans ((if_neg (by rw [i4]; exact Bool.false_ne_true)).trans ((if_neg (by rw [i5]; exact Bool.false_ne_true)).trans ((if_neg (by rw [i6]; exact Bool.false_ne_true)).trans ((if_neg (by rw [i7]; exact Bool.false_ne_true)).trans (if_pos i8))))))))
                          rw [eL] at hK
                          have eQ : qLike x S = qLike2 x (qlk x 6 (S.2.1 1) (qadv x S)) (qadv x (qadv x S)) := by
                            rw [qLike_e]
                            exact qtn_k (show 0 ≤ (qlk x 6 (S.2.1 1) (qadv x S)) from c24)
                          rw [eQ, ← E24] at hK
                          exact hK.1 c26 _ F26 (rgl_tr g25 G26)
                        · refine And.intro (show 0 ≤ 1 ∧ 1 ≤ 1 from by omega) ?_
                          have eL : qline x S = qLike x S := (if_neg (by rw [i0]; exact Bool.false_ne_true)).trans ((if_neg (by rw [i1]; exact Bool.false_ne_true)).trans ((if_neg (by rw [i2]; exact Bool.false_ne_true)).trans ((if_neg (by rw [i3]; exact Bool.false_ne_true)).trans ((if_neg (by rw [i4]; exact Bool.false_ne_true)).trans ((if_neg (by rw [i5]; exact Bool.false_ne_true)).trans ((if_neg (by rw [i6]; exact Bool.false_ne_true)).trans ((if_neg (by rw [i7]; exact Bool.false_ne_true)).trans (if_pos i8))))))))
                          rw [eL] at hK
                          have eQ : qLike x S = qLike2 x (qlk x 6 (S.2.1 1) (qadv x S)) (qadv x (qadv x S)) := by
                            rw [qLike_e]
                            exact qtn_k (show 0 ≤ (qlk x 6 (S.2.1 1) (qadv x S)) from c24)
                          rw [eQ, ← E24] at hK
                          exact hK.2 c26 _ T26 B26 (rgl_tr g25 G26)
                    · have i8 : qIs x S 465625113971 = false := Bool.eq_false_iff.mpr (fun q => t24 ((qIs_w hT).mp q))
                      refine And.intro (fun _ => ?_) (fun (q : ¬ 0 = 0) => absurd q (by decide))
                      refine And.intro (fun (q : 0 ≤ (-1)) => absurd q (by decide)) (fun _ => ?_)
                      refine And.intro (by omega) ?_
                      refine And.intro (show 0 ≤ 0 ∧ 0 ≤ 1 from by omega) ?_
                      have eL : qline x S = (1, S) := (if_neg (by rw [i0]; exact Bool.false_ne_true)).trans ((if_neg (by rw [i1]; exact Bool.false_ne_true)).trans ((if_neg (by rw [i2]; exact Bool.false_ne_true)).trans ((if_neg (by rw [i3]; exact Bool.false_ne_true)).trans ((if_neg (by rw [i4]; exact Bool.false_ne_true)).trans ((if_neg (by rw [i5]; exact Bool.false_ne_true)).trans ((if_neg (by rw [i6]; exact Bool.false_ne_true)).trans ((if_neg (by rw [i7]; exact Bool.false_ne_true)).trans (if_neg (by rw [i8]; exact Bool.false_ne_true)))))))))
                      exact rRs_f hK eL (by decide) (rFl_bad hT) (rgl_tr rgl_refl (rg_l rg_bad))
  · exact absurd h id
end ZU4
