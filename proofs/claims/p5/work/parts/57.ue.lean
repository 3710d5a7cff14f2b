/-! THE REFERENCE READS A TERRACE: readOwner, readRoom. -/
noncomputable section
def qLet2 (x : qX) (q : Int) (S : qS) : qR := qtn x 6 (S.2.1 1) S fun g S => if g = q ∨ tb (S.2.1 (95 + q)) g = true then (3, S) else (0, qadv x (qst (95 + q) (vor (S.2.1 (95 + q)) (vshl 1 g)) S))
def qHeir2 (x : qX) (q : Int) (S : qS) : qR := qtn x 6 (S.2.1 1) S fun g S => if g = q then (3, S) else (0, qadv x (qst (101 + q) (g + 1) S))
def qAt2 (x : qX) (q : Int) (S : qS) : qR := qtn x 12 (S.2.1 2) S fun r S => (0, qadv x (qst (89 + q) (r + 1) S))
def qLike2 (x : qX) (q : Int) (S : qS) : qR := qtn x 12 (S.2.1 2) S fun r S => if 0 < S.2.1 (107 + 12 * q + r) then (3, S) else (if qtk x (qadv x S) = 2 then (if 1 ≤ qvl x.1 x.2.1 (qadv x S).1 ∧ qvl x.1 x.2.1 (qadv x S).1 ≤ 9 then (0, qadv x (qst (107 + 12 * q + r) (qvl x.1 x.2.1 (qadv x S).1) (qadv x S))) else (2, qadv x S)) else (1, qadv x S))
def us258 : vSpL := fun vs σ K => match vs with
  | [.inr (.inl 12), .inl what, .inl q] => ((0 ≤ q ∧ q ≤ 5) ∧ (what = 1 ∨ what = 2)) ∧ ∃ x S, rT x S.1 σ ∧ rTb S σ ∧ qSb x S ∧ rRs x (if what = 1 then qLet2 x q S else qHeir2 x q S) σ K
  | _ => False
def us260 : vSpL := fun vs σ K => match vs with
  | [.inr (.inl 12), .inl what, .inl q] => ((0 ≤ q ∧ q ≤ 5) ∧ (what = 0 ∨ what = 3)) ∧ ∃ x S, rT x S.1 σ ∧ rTb S σ ∧ qSb x S ∧ rRs x (if what = 0 then qAt2 x q S else qLike2 x q S) σ K
  | _ => False
def uRN : List (Nat × vSpL) := (276, us276) :: uRM
end
theorem qLet_e {x : qX} {S : qS} : qLet x S = qtn x 6 (S.2.1 1) (qadv x S) (fun q S => qLet2 x q (qadv x S)) := rfl
theorem qHeir_e {x : qX} {S : qS} : qHeir x S = qtn x 6 (S.2.1 1) (qadv x S) (fun q S => if 0 < S.2.1 (101 + q) then (3, S) else qHeir2 x q (qadv x S)) := rfl
theorem qAt_e {x : qX} {S : qS} : qAt x S = qtn x 6 (S.2.1 1) (qadv x S) (fun q S => if 0 < S.2.1 (89 + q) then (3, S) else qAt2 x q (qadv x S)) := rfl
theorem qLike_e {x : qX} {S : qS} : qLike x S = qtn x 6 (S.2.1 1) (qadv x S) (fun q S => qLike2 x q (qadv x S)) := rfl
theorem rTb_st {S : qS} {σ : vS} {i v : Int} (h : rTb S σ) : rTb (qst i v S) (vup σ 53 i v) := ⟨fun j hj => by
  rw [vup_f]
  show (if j = i then v else σ 53 j) = if j = i then v else S.2.1 j
  rw [h.1 j hj], fun j a b => by rw [vup_fr (by decide)]; exact h.2 j a b⟩
section ZU3
variable {E : zE} {w : va_W} {σ : vS} {K : vKL}
theorem uRN_ok (X : zX gKX E) (B : zB E) : zSL E gJ1 mdT w uRN := zS_consL (uk_276 X B) (uRM_ok X B)
set_option maxRecDepth 8192 in
theorem uk_258 (X : zX gKX E) (B : zB E) : zOKL E gJ1 mdT w 258 us258 := by
  intro q hq vs σ K h
  cases (show gMT 258 = some (gm_258, 3) from rfl).symm.trans hq
  unfold us258 at h
  split at h
  · rename_i what q
    show zGL E gJ1 mdT w gm_258 0 [(0, .inr (.inl 12)), (1, .inl what), (2, .inl q)] σ K
    obtain ⟨⟨hq5, hw⟩, x, S, hT, hTb, hS, hK⟩ := h
    have b0 : σ 53 0 = S.2.1 0 := hTb.1 0 (by omega)
    have b1 : σ 53 1 = S.2.1 1 := hTb.1 1 (by omega)
    have b2 : σ 53 2 = S.2.1 2 := hTb.1 2 (by omega)
    have hS0 := hS.2.1; have hS1 := hS.2.2.1; have hS2 := hS.2.2.2.1; have hS3 := hS.2.2.2.2.1
    rcases hw with rfl | rfl
    · rw [if_pos rfl] at hK
      refine zbdL (fun hb => zgoL X B (uRN_ok X B) [] [] (fun m => false) (by decide +kernel) ?_)
      refine And.intro (show 0 ≤ 1 ∧ 1 < 179 from by omega) ?_
      have f1 : 0 ≤ σ 53 1 ∧ σ 53 1 ≤ 6 := zbL B hb (t := 53) (a := 0) (n := 2) (i := 1) (by decide +kernel) (by omega) (by omega)
      have m1 : σ 53 1 = S.2.1 1 := hTb.1 1 (by omega)
      have l1 : qlf x (σ 55) 30 (σ 53 1) S.1 = (qlk x 6 (S.2.1 1) S) := by
        rw [m1]
        exact qlf_sh (by omega) (fun i i0 i1 => by rw [show (30 : Int) + i = 24 + (6 + i) by omega]; exact hTb.2 (6 + i) (by omega) (by omega))
      have j1 : (qlk x 6 (S.2.1 1) S) < S.2.1 1 := qlk_b (by omega)
      have jj1 : -3 ≤ (qlk x 6 (S.2.1 1) S) := qlk_m (by omega)
      refine ⟨by omega, x, S.1, hT, fun c1 σ1 F1 G1 => ?_, fun c1 σ1 T1 G1 P1 E1 => ?_⟩
      · rw [l1] at c1 F1
        refine And.intro (fun (q : ¬ 0 = 0) => absurd q (by decide)) (fun _ => ?_)
        refine And.intro (show 0 ≤ 0 ∧ 0 ≤ 1 from by omega) ?_
        refine rRs_f hK (S := S) (k := -(qlk x 6 (S.2.1 1) S)) (by unfold qLet2; exact qtn_f (show (qlk x 6 (S.2.1 1) S) < 0 from c1)) (by omega) F1 (rgl_tr rgl_refl (rg_l G1))
      · rw [l1] at c1 E1
        have B1 : rTb S σ1 := rTb_fr hTb (G1.1 53 (by decide)) (G1.1 55 (by decide))
        have g1 : rgl σ σ1 := rgl_tr rgl_refl (rg_l G1)
        refine And.intro (fun _ => ?_) (fun (q : 1 = 0) => absurd q (by decide))
        refine And.intro (fun (c2 : (σ1 12 18) = q) => ?_) (fun (c3 : ¬ (σ1 12 18) = q) => ?_)
        · refine And.intro (by omega) ?_
          refine And.intro (show 0 ≤ 0 ∧ 0 ≤ 1 from by omega) ?_
          have hb95 : σ1 53 (95 + q) = S.2.1 (95 + q) := B1.1 (95 + q) (by omega)
          have htb := tb01 (x := S.2.1 (95 + q)) (k := (qlk x 6 (S.2.1 1) S)) (by omega) (by omega)
          rw [← hb95, ← E1] at htb
          refine rRs_f hK (S := S) (k := 3) (by unfold qLet2; exact (qtn_k (show 0 ≤ (qlk x 6 (S.2.1 1) S) from c1)).trans (if_pos (show ((qlk x 6 (S.2.1 1) S) = q ∨ tb (S.2.1 (95 + q)) (qlk x 6 (S.2.1 1) S) = true) by rw [← E1, ← hb95]; exact (Decidable.em (σ1 12 18 = q)).imp id (fun q => by rcases htb with t | t; exact t.1; omega)))) (by decide) (rFl_bad T1) (rgl_tr g1 (rg_l rg_bad))
        · refine And.intro (fun (q : ¬ 1 = 1) => absurd q (by decide)) (fun _ => ?_)
          refine And.intro (show -2147483648 ≤ (95 + q) ∧ (95 + q) ≤ 2147483647 from by omega) ?_
          refine And.intro (show 0 ≤ (95 + q) ∧ (95 + q) < 179 from by omega) ?_
          refine And.intro (fun (c4 : ¬ (vand (vshr (σ1 53 (95 + q)) (σ1 12 18)) 1) = 1) => ?_) (fun (c5 : (vand (vshr (σ1 53 (95 + q)) (σ1 12 18)) 1) = 1) => ?_)
          · refine And.intro (show 0 ≤ 0 ∧ 0 ≤ 1 from by omega) ?_
            refine And.intro (fun _ => ?_) (fun (q : ¬ 0 = 0) => absurd q (by decide))
            refine And.intro (fun (q : ¬ 1 = 1) => absurd q (by decide)) (fun _ => ?_)
            refine And.intro (show -2147483648 ≤ (95 + q) ∧ (95 + q) ≤ 2147483647 from by omega) ?_
            refine And.intro (show 0 ≤ (95 + q) ∧ (95 + q) < 179 from by omega) ?_
            refine And.intro (show 0 ≤ (95 + q) ∧ (95 + q) < 179 from by omega) ?_
            refine And.intro (show vRg (zrg 53) (95 + q) (vor (σ1 53 (95 + q)) (vshl 1 (σ1 12 18))) from rg53 (a := 95) (b := 101) (lo := (-2147483648)) (hi := 2147483647) (by decide +kernel) (by omega) (by omega) vor_b) ?_
            refine fun (σ2 : vS) f2 t2 => ?_
            have T2 : rT x (qnx x.1 x.2.1 S.1) σ2 := rT_next (rT_t T1 (by decide)) (by have := qnmp_k (qlk_n c1); omega) (lim_ok B hb hT.1).1 f2 t2
            have B2 : rTb (qst (95 + q) (vor (σ1 53 (95 + q)) (vshl 1 (σ1 12 18))) S) σ2 := rTb_fr (σ := (vup σ1 53 (95 + q) (vor (σ1 53 (95 + q)) (vshl 1 (σ1 12 18))))) (rTb_st B1) (f2.1 53 (by decide)) (f2.1 55 (by decide))
            have g2 : rgl σ σ2 := rgl_tr (σ1 := (vup σ1 53 (95 + q) (vor (σ1 53 (95 + q)) (vshl 1 (σ1 12 18))))) (rgl_t g1 (by decide)) (rg_l (rg_of f2))
            refine And.intro (show 0 ≤ 1 ∧ 1 ≤ 1 from by omega) ?_
            have hb95 : σ1 53 (95 + q) = S.2.1 (95 + q) := B1.1 (95 + q) (by omega)
            have htb := tb01 (x := S.2.1 (95 + q)) (k := (qlk x 6 (S.2.1 1) S)) (by omega) (by omega)
            rw [← hb95, ← E1] at htb
            refine rRs_d hK (S := (qadv x (qst (95 + q) (vor (S.2.1 (95 + q)) (vshl 1 (qlk x 6 (S.2.1 1) S))) S))) (by unfold qLet2; exact (qtn_k (show 0 ≤ (qlk x 6 (S.2.1 1) S) from c1)).trans (if_neg (show ¬ ((qlk x 6 (S.2.1 1) S) = q ∨ tb (S.2.1 (95 + q)) (qlk x 6 (S.2.1 1) S) = true) by rw [← E1, ← hb95]; intro q; rcases q with q | q; omega; rcases htb with t | t; omega; rw [t.1] at q; exact absurd q Bool.false_ne_true))) T2 (show rTb (qst (95 + q) (vor (S.2.1 (95 + q)) (vshl 1 (qlk x 6 (S.2.1 1) S))) S) σ2 from by have bb := B2; rw [E1, hb95] at bb; exact bb) g2
          · refine And.intro (show 0 ≤ 1 ∧ 1 ≤ 1 from by omega) ?_
            refine And.intro (fun (q : 1 = 0) => absurd q (by decide)) (fun _ => ?_)
            refine And.intro (by omega) ?_
            refine And.intro (show 0 ≤ 0 ∧ 0 ≤ 1 from by omega) ?_
            have hb95 : σ1 53 (95 + q) = S.2.1 (95 + q) := B1.1 (95 + q) (by omega)
            have htb := tb01 (x := S.2.1 (95 + q)) (k := (qlk x 6 (S.2.1 1) S)) (by omega) (by omega)
            rw [← hb95, ← E1] at htb
            refine rRs_f hK (S := S) (k := 3) (by unfold qLet2; exact (qtn_k (show 0 ≤ (qlk x 6 (S.2.1 1) S) from c1)).trans (if_pos (show ((qlk x 6 (S.2.1 1) S) = q ∨ tb (S.2.1 (95 + q)) (qlk x 6 (S.2.1 1) S) = true) by rw [← E1, ← hb95]; exact (Decidable.em (σ1 12 18 = q)).imp id (fun q => by rcases htb with t | t; exact t.1; omega)))) (by decide) (rFl_bad T1) (rgl_tr g1 (rg_l rg_bad))
    · rw [if_neg (by decide)] at hK
      refine zbdL (fun hb => zgoL X B (uRN_ok X B) [] [] (fun m => false) (by decide +kernel) ?_)
      refine And.intro (show 0 ≤ 1 ∧ 1 < 179 from by omega) ?_
      have f1 : 0 ≤ σ 53 1 ∧ σ 53 1 ≤ 6 := zbL B hb (t := 53) (a := 0) (n := 2) (i := 1) (by decide +kernel) (by omega) (by omega)
      have m1 : σ 53 1 = S.2.1 1 := hTb.1 1 (by omega)
      have l1 : qlf x (σ 55) 30 (σ 53 1) S.1 = (qlk x 6 (S.2.1 1) S) := by
        rw [m1]
        exact qlf_sh (by omega) (fun i i0 i1 => by rw [show (30 : Int) + i = 24 + (6 + i) by omega]; exact hTb.2 (6 + i) (by omega) (by omega))
      have j1 : (qlk x 6 (S.2.1 1) S) < S.2.1 1 := qlk_b (by omega)
      have jj1 : -3 ≤ (qlk x 6 (S.2.1 1) S) := qlk_m (by omega)
      refine ⟨by omega, x, S.1, hT, fun c1 σ1 F1 G1 => ?_, fun c1 σ1 T1 G1 P1 E1 => ?_⟩
      · rw [l1] at c1 F1
        refine And.intro (fun (q : ¬ 0 = 0) => absurd q (by decide)) (fun _ => ?_)
        refine And.intro (show 0 ≤ 0 ∧ 0 ≤ 1 from by omega) ?_
        refine rRs_f hK (S := S) (k := -(qlk x 6 (S.2.1 1) S)) (by unfold qHeir2; exact qtn_f (show (qlk x 6 (S.2.1 1) S) < 0 from c1)) (by omega) F1 (rgl_tr rgl_refl (rg_l G1))
      · rw [l1] at c1 E1
        have B1 : rTb S σ1 := rTb_fr hTb (G1.1 53 (by decide)) (G1.1 55 (by decide))
        have g1 : rgl σ σ1 := rgl_tr rgl_refl (rg_l G1)
        refine And.intro (fun _ => ?_) (fun (q : 1 = 0) => absurd q (by decide))
        refine And.intro (fun (c2 : (σ1 12 18) = q) => ?_) (fun (c3 : ¬ (σ1 12 18) = q) => ?_)
        · refine And.intro (by omega) ?_
          refine And.intro (show 0 ≤ 0 ∧ 0 ≤ 1 from by omega) ?_
          refine rRs_f hK (S := S) (k := 3) (by unfold qHeir2; exact (qtn_k (show 0 ≤ (qlk x 6 (S.2.1 1) S) from c1)).trans (if_pos (show (qlk x 6 (S.2.1 1) S) = q by omega))) (by decide) (rFl_bad T1) (rgl_tr g1 (rg_l rg_bad))
        · refine And.intro (fun _ => ?_) (fun (q : 2 = 1) => absurd q (by decide))
          refine And.intro (fun _ => ?_) (fun (q : 2 = 1) => absurd q (by decide))
          refine And.intro (show -2147483648 ≤ (101 + q) ∧ (101 + q) ≤ 2147483647 from by omega) ?_
          refine And.intro (show -2147483648 ≤ ((σ1 12 18) + 1) ∧ ((σ1 12 18) + 1) ≤ 2147483647 from by omega) ?_
          refine And.intro (show 0 ≤ (101 + q) ∧ (101 + q) < 179 from by omega) ?_
          refine And.intro (show vRg (zrg 53) (101 + q) ((σ1 12 18) + 1) from rg53 (a := 101) (b := 107) (lo := 0) (hi := 6) (by decide +kernel) (by omega) (by omega) (by omega)) ?_
          refine fun (σ2 : vS) f2 t2 => ?_
          have T2 : rT x (qnx x.1 x.2.1 S.1) σ2 := rT_next (rT_t T1 (by decide)) (by have := qnmp_k (qlk_n c1); omega) (lim_ok B hb hT.1).1 f2 t2
          have B2 : rTb (qst (101 + q) ((σ1 12 18) + 1) S) σ2 := rTb_fr (σ := (vup σ1 53 (101 + q) ((σ1 12 18) + 1))) (rTb_st B1) (f2.1 53 (by decide)) (f2.1 55 (by decide))
          have g2 : rgl σ σ2 := rgl_tr (σ1 := (vup σ1 53 (101 + q) ((σ1 12 18) + 1))) (rgl_t g1 (by decide)) (rg_l (rg_of f2))
          refine And.intro (show 0 ≤ 1 ∧ 1 ≤ 1 from by omega) ?_
          refine rRs_d hK (S := (qadv x (qst (101 + q) ((qlk x 6 (S.2.1 1) S) + 1) S))) (by unfold qHeir2; exact (qtn_k (show 0 ≤ (qlk x 6 (S.2.1 1) S) from c1)).trans (if_neg (show ¬ (qlk x 6 (S.2.1 1) S) = q by omega))) T2 (show rTb (qst (101 + q) ((qlk x 6 (S.2.1 1) S) + 1) S) σ2 from by have bb := B2; rw [E1] at bb; exact bb) g2
  · exact absurd h id
set_option maxRecDepth 8192 in
theorem uk_260 (X : zX gKX E) (B : zB E) : zOKL E gJ1 mdT w 260 us260 := by
  intro q hq vs σ K h
  cases (show gMT 260 = some (gm_260, 4) from rfl).symm.trans hq
  unfold us260 at h
  split at h
  · rename_i what q
    show zGL E gJ1 mdT w gm_260 0 [(0, .inr (.inl 12)), (1, .inl what), (2, .inl q)] σ K
    obtain ⟨⟨hq5, hw⟩, x, S, hT, hTb, hS, hK⟩ := h
    have b0 : σ 53 0 = S.2.1 0 := hTb.1 0 (by omega)
    have b1 : σ 53 1 = S.2.1 1 := hTb.1 1 (by omega)
    have b2 : σ 53 2 = S.2.1 2 := hTb.1 2 (by omega)
    have hS0 := hS.2.1; have hS1 := hS.2.2.1; have hS2 := hS.2.2.2.1; have hS3 := hS.2.2.2.2.1
    rcases hw with rfl | rfl
    · rw [if_pos rfl] at hK
      refine zbdL (fun hb => zgoL X B (uRN_ok X B) [] [] (fun m => false) (by decide +kernel) ?_)
      refine And.intro (show 0 ≤ 2 ∧ 2 < 179 from by omega) ?_
      have f1 : 0 ≤ σ 53 2 ∧ σ 53 2 ≤ 12 := zbL B hb (t := 53) (a := 2) (n := 3) (i := 2) (by decide +kernel) (by omega) (by omega)
      have m1 : σ 53 2 = S.2.1 2 := hTb.1 2 (by omega)
      have l1 : qlf x (σ 55) 36 (σ 53 2) S.1 = (qlk x 12 (S.2.1 2) S) := by
        rw [m1]
        exact qlf_sh (by omega) (fun i i0 i1 => by rw [show (36 : Int) + i = 24 + (12 + i) by omega]; exact hTb.2 (12 + i) (by omega) (by omega))
      have j1 : (qlk x 12 (S.2.1 2) S) < S.2.1 2 := qlk_b (by omega)
      have jj1 : -3 ≤ (qlk x 12 (S.2.1 2) S) := qlk_m (by omega)
      refine ⟨by omega, x, S.1, hT, fun c1 σ1 F1 G1 => ?_, fun c1 σ1 T1 G1 P1 E1 => ?_⟩
      · rw [l1] at c1 F1
        refine And.intro (fun (q : ¬ 0 = 0) => absurd q (by decide)) (fun _ => ?_)
        refine And.intro (show 0 ≤ 0 ∧ 0 ≤ 1 from by omega) ?_
        refine rRs_f hK (S := S) (k := -(qlk x 12 (S.2.1 2) S)) (by unfold qAt2; exact qtn_f (show (qlk x 12 (S.2.1 2) S) < 0 from c1)) (by omega) F1 (rgl_tr rgl_refl (rg_l G1))
      · rw [l1] at c1 E1
        have B1 : rTb S σ1 := rTb_fr hTb (G1.1 53 (by decide)) (G1.1 55 (by decide))
        have g1 : rgl σ σ1 := rgl_tr rgl_refl (rg_l G1)
        refine And.intro (fun _ => ?_) (fun (q : 1 = 0) => absurd q (by decide))
        refine And.intro (fun (q : ¬ 0 = 0) => absurd q (by decide)) (fun _ => ?_)
        refine And.intro (show -2147483648 ≤ (89 + q) ∧ (89 + q) ≤ 2147483647 from by omega) ?_
        refine And.intro (show -2147483648 ≤ ((σ1 12 18) + 1) ∧ ((σ1 12 18) + 1) ≤ 2147483647 from by omega) ?_
        refine And.intro (show 0 ≤ (89 + q) ∧ (89 + q) < 179 from by omega) ?_
        refine And.intro (show vRg (zrg 53) (89 + q) ((σ1 12 18) + 1) from rg53 (a := 89) (b := 95) (lo := 0) (hi := 12) (by decide +kernel) (by omega) (by omega) (by omega)) ?_
        refine fun (σ2 : vS) f2 t2 => ?_
        have T2 : rT x (qnx x.1 x.2.1 S.1) σ2 := rT_next (rT_t T1 (by decide)) (by have := qnmp_k (qlk_n c1); omega) (lim_ok B hb hT.1).1 f2 t2
        have B2 : rTb (qst (89 + q) ((σ1 12 18) + 1) S) σ2 := rTb_fr (σ := (vup σ1 53 (89 + q) ((σ1 12 18) + 1))) (rTb_st B1) (f2.1 53 (by decide)) (f2.1 55 (by decide))
        have g2 : rgl σ σ2 := rgl_tr (σ1 := (vup σ1 53 (89 + q) ((σ1 12 18) + 1))) (rgl_t g1 (by decide)) (rg_l (rg_of f2))
        refine And.intro (show 0 ≤ 1 ∧ 1 ≤ 1 from by omega) ?_
        refine rRs_d hK (S := (qadv x (qst (89 + q) ((qlk x 12 (S.2.1 2) S) + 1) S))) (by unfold qAt2; exact qtn_k (show 0 ≤ (qlk x 12 (S.2.1 2) S) from c1)) T2 (show rTb (qst (89 + q) ((qlk x 12 (S.2.1 2) S) + 1) S) σ2 from by have bb := B2; rw [E1] at bb; exact bb) g2
    · rw [if_neg (by decide)] at hK
      refine zbdL (fun hb => zgoL X B (uRN_ok X B) [] [] (fun m => false) (by decide +kernel) ?_)
      refine And.intro (show 0 ≤ 2 ∧ 2 < 179 from by omega) ?_
      have f1 : 0 ≤ σ 53 2 ∧ σ 53 2 ≤ 12 := zbL B hb (t := 53) (a := 2) (n := 3) (i := 2) (by decide +kernel) (by omega) (by omega)
      have m1 : σ 53 2 = S.2.1 2 := hTb.1 2 (by omega)
      have l1 : qlf x (σ 55) 36 (σ 53 2) S.1 = (qlk x 12 (S.2.1 2) S) := by
        rw [m1]
        exact qlf_sh (by omega) (fun i i0 i1 => by rw [show (36 : Int) + i = 24 + (12 + i) by omega]; exact hTb.2 (12 + i) (by omega) (by omega))
      have j1 : (qlk x 12 (S.2.1 2) S) < S.2.1 2 := qlk_b (by omega)
      have jj1 : -3 ≤ (qlk x 12 (S.2.1 2) S) := qlk_m (by omega)
      refine ⟨by omega, x, S.1, hT, fun c1 σ1 F1 G1 => ?_, fun c1 σ1 T1 G1 P1 E1 => ?_⟩
      · rw [l1] at c1 F1
        refine And.intro (fun (q : ¬ 0 = 0) => absurd q (by decide)) (fun _ => ?_)
        refine And.intro (show 0 ≤ 0 ∧ 0 ≤ 1 from by omega) ?_
        refine rRs_f hK (S := S) (k := -(qlk x 12 (S.2.1 2) S)) (by unfold qLike2; exact qtn_f (show (qlk x 12 (S.2.1 2) S) < 0 from c1)) (by omega) F1 (rgl_tr rgl_refl (rg_l G1))
      · rw [l1] at c1 E1
        have B1 : rTb S σ1 := rTb_fr hTb (G1.1 53 (by decide)) (G1.1 55 (by decide))
        have g1 : rgl σ σ1 := rgl_tr rgl_refl (rg_l G1)
        refine And.intro (fun _ => ?_) (fun (q : 1 = 0) => absurd q (by decide))
        refine And.intro (fun _ => ?_) (fun (q : 3 = 0) => absurd q (by decide))
        refine And.intro (show -2147483648 ≤ (12 * q) ∧ (12 * q) ≤ 2147483647 from by omega) ?_
        refine And.intro (show -2147483648 ≤ (107 + (12 * q)) ∧ (107 + (12 * q)) ≤ 2147483647 from by omega) ?_
        refine And.intro (show -2147483648 ≤ ((107 + (12 * q)) + (σ1 12 18)) ∧ ((107 + (12 * q)) + (σ1 12 18)) ≤ 2147483647 from by omega) ?_
        refine And.intro (show 0 ≤ ((107 + (12 * q)) + (σ1 12 18)) ∧ ((107 + (12 * q)) + (σ1 12 18)) < 179 from by omega) ?_
        refine And.intro (fun (c2 : (σ1 53 ((107 + (12 * q)) + (σ1 12 18))) ≤ 0) => ?_) (fun (c3 : 0 < (σ1 53 ((107 + (12 * q)) + (σ1 12 18)))) => ?_)
        · refine fun (σ2 : vS) f2 t2 => ?_
          have T2 : rT x (qnx x.1 x.2.1 S.1) σ2 := rT_next T1 (by have := qnmp_k (qlk_n c1); omega) (lim_ok B hb hT.1).1 f2 t2
          have B2 : rTb S σ2 := rTb_fr (σ := σ1) B1 (f2.1 53 (by decide)) (f2.1 55 (by decide))
          have g2 : rgl σ σ2 := rgl_tr (σ1 := σ1) g1 (rg_l (rg_of f2))
          refine ⟨by omega, x, (qadv x S).1, T2, fun v3 σ3 F3 G3 => ?_, fun v3 u3 σ3 F3 G3 => ?_, fun v3 u3 σ3 T3 G3 E3 => ?_⟩
          · refine And.intro (fun (q : ¬ 0 = 0) => absurd q (by decide)) (fun _ => ?_)
            refine And.intro (show 0 ≤ 0 ∧ 0 ≤ 1 from by omega) ?_
            have hbl : σ1 53 (107 + 12 * q + (qlk x 12 (S.2.1 2) S)) = S.2.1 (107 + 12 * q + (qlk x 12 (S.2.1 2) S)) := B1.1 (107 + 12 * q + (qlk x 12 (S.2.1 2) S)) (by omega)
            rw [← E1] at hbl
            refine rRs_f hK (S := (qadv x S)) (k := 1) (by unfold qLike2; exact (qtn_k (show 0 ≤ (qlk x 12 (S.2.1 2) S) from c1)).trans ((if_neg (show ¬ 0 < S.2.1 (107 + 12 * q + (qlk x 12 (S.2.1 2) S)) by rw [← E1]; omega)).trans (if_neg (show ¬ qtk x (qadv x S) = 2 from v3)))) (by decide) F3 (rgl_tr g2 (rg_l G3))
          · refine And.intro (fun (q : ¬ 0 = 0) => absurd q (by decide)) (fun _ => ?_)
            refine And.intro (show 0 ≤ 0 ∧ 0 ≤ 1 from by omega) ?_
            have hbl : σ1 53 (107 + 12 * q + (qlk x 12 (S.2.1 2) S)) = S.2.1 (107 + 12 * q + (qlk x 12 (S.2.1 2) S)) := B1.1 (107 + 12 * q + (qlk x 12 (S.2.1 2) S)) (by omega)
            rw [← E1] at hbl
            refine rRs_f hK (S := (qadv x S)) (k := 2) (by unfold qLike2; exact (qtn_k (show 0 ≤ (qlk x 12 (S.2.1 2) S) from c1)).trans ((if_neg (show ¬ 0 < S.2.1 (107 + 12 * q + (qlk x 12 (S.2.1 2) S)) by rw [← E1]; omega)).trans ((if_pos (show qtk x (qadv x S) = 2 from v3)).trans (if_neg u3)))) (by decide) F3 (rgl_tr g2 (rg_l G3))
          · have B3 : rTb (qadv x S) σ3 := rTb_fr B2 (G3.1 53 (by decide)) (G3.1 55 (by decide))
            have g3 : rgl σ σ3 := rgl_tr g2 (rg_l G3)
            refine And.intro (fun _ => ?_) (fun (q : 1 = 0) => absurd q (by decide))
            refine And.intro (show -2147483648 ≤ (12 * q) ∧ (12 * q) ≤ 2147483647 from by omega) ?_
            refine And.intro (show -2147483648 ≤ (107 + (12 * q)) ∧ (107 + (12 * q)) ≤ 2147483647 from by omega) ?_
            refine And.intro (show -2147483648 ≤ ((107 + (12 * q)) + (σ1 12 18)) ∧ ((107 + (12 * q)) + (σ1 12 18)) ≤ 2147483647 from by omega) ?_
            refine And.intro (show 0 ≤ ((107 + (12 * q)) + (σ1 12 18)) ∧ ((107 + (12 * q)) + (σ1 12 18)) < 179 from by omega) ?_
            refine And.intro (show vRg (zrg 53) ((107 + (12 * q)) + (σ1 12 18)) (σ3 12 18) from rg53 (a := 107) (b := 179) (lo := 0) (hi := 9) (by decide +kernel) (by omega) (by omega) (by omega)) ?_
            refine And.intro (show 0 ≤ 1 ∧ 1 ≤ 1 from by omega) ?_
            have hbl : σ1 53 (107 + 12 * q + (qlk x 12 (S.2.1 2) S)) = S.2.1 (107 + 12 * q + (qlk x 12 (S.2.1 2) S)) := B1.1 (107 + 12 * q + (qlk x 12 (S.2.1 2) S)) (by omega)
            rw [← E1] at hbl
            refine rRs_d hK (S := qadv x (qst (107 + 12 * q + (qlk x 12 (S.2.1 2) S)) (qvl x.1 x.2.1 (qadv x S).1) (qadv x S))) (by unfold qLike2; exact (qtn_k (show 0 ≤ (qlk x 12 (S.2.1 2) S) from c1)).trans ((if_neg (show ¬ 0 < S.2.1 (107 + 12 * q + (qlk x 12 (S.2.1 2) S)) by rw [← E1]; omega)).trans ((if_pos (show qtk x (qadv x S) = 2 from v3)).trans (if_pos u3)))) (rT_t T3 (by decide)) (show rTb (qst (107 + 12 * q + (qlk x 12 (S.2.1 2) S)) (qvl x.1 x.2.1 (qadv x S).1) (qadv x S)) _ from by rw [← E1, ← E3]; exact rTb_st B3) (rgl_t g3 (by decide))
        · refine And.intro (by omega) ?_
          refine And.intro (show 0 ≤ 0 ∧ 0 ≤ 1 from by omega) ?_
          have hbl : σ1 53 (107 + 12 * q + (qlk x 12 (S.2.1 2) S)) = S.2.1 (107 + 12 * q + (qlk x 12 (S.2.1 2) S)) := B1.1 (107 + 12 * q + (qlk x 12 (S.2.1 2) S)) (by omega)
          rw [← E1] at hbl
          refine rRs_f hK (S := S) (k := 3) (by unfold qLike2; exact (qtn_k (show 0 ≤ (qlk x 12 (S.2.1 2) S) from c1)).trans (if_pos (show 0 < S.2.1 (107 + 12 * q + (qlk x 12 (S.2.1 2) S)) by rw [← E1]; omega))) (by decide) (rFl_bad T1) (rgl_tr g1 (rg_l rg_bad))
  · exact absurd h id
end ZU3
