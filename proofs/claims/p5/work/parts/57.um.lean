/-! THE CLASS READS A TERRACE: readFact, readText. -/
theorem qIs_t {x : qX} {S : qS} {v : Int} (hk : qkd x.1 x.2.1 x.2.2 S.1 = 1) (hw : qwd x.1 x.2.1 S.1 = v) : qIs x S v = true := by
  unfold qIs qtk
  rw [hk, hw]
  simp
theorem qIs_f {x : qX} {S : qS} {v : Int} (h : ¬ (qkd x.1 x.2.1 x.2.2 S.1 = 1 ∧ qwd x.1 x.2.1 S.1 = v)) : ¬ qIs x S v = true := fun q => by
  unfold qIs qtk at q
  rw [Bool.and_eq_true, decide_eq_true_iff, decide_eq_true_iff] at q
  exact h q
theorem qline_n {x : qX} {S : qS} (h : ∀ j : Int, 0 ≤ j → j < 9 → ¬ (qkd x.1 x.2.1 x.2.2 S.1 = 1 ∧ qwd x.1 x.2.1 S.1 = qrw j)) : qline x S = (1, S) := (if_neg (qIs_f (h 0 (by decide) (by decide)))).trans ((if_neg (qIs_f (h 1 (by decide) (by decide)))).trans ((if_neg (qIs_f (h 2 (by decide) (by decide)))).trans ((if_neg (qIs_f (h 3 (by decide) (by decide)))).trans ((if_neg (qIs_f (h 4 (by decide) (by decide)))).trans ((if_neg (qIs_f (h 5 (by decide) (by decide)))).trans ((if_neg (qIs_f (h 6 (by decide) (by decide)))).trans ((if_neg (qIs_f (h 7 (by decide) (by decide)))).trans (if_neg (qIs_f (h 8 (by decide) (by decide)))))))))))
theorem qlnw_0 {x : qX} {S : qS} (hk : qkd x.1 x.2.1 x.2.2 S.1 = 1) (hw : qwd x.1 x.2.1 S.1 = qrw 0) : qline x S = qNew x 0 0 6 S := if_pos (qIs_t hk hw)
theorem qlnw_1 {x : qX} {S : qS} (hk : qkd x.1 x.2.1 x.2.2 S.1 = 1) (hw : qwd x.1 x.2.1 S.1 = qrw 1) : qline x S = qNew x 1 6 6 S := (if_neg (qIs_f (fun q => absurd (hw.symm.trans q.2) (by decide)))).trans (if_pos (qIs_t hk hw))
theorem qlnw_2 {x : qX} {S : qS} (hk : qkd x.1 x.2.1 x.2.2 S.1 = 1) (hw : qwd x.1 x.2.1 S.1 = qrw 2) : qline x S = qRoom x S := (if_neg (qIs_f (fun q => absurd (hw.symm.trans q.2) (by decide)))).trans ((if_neg (qIs_f (fun q => absurd (hw.symm.trans q.2) (by decide)))).trans (if_pos (qIs_t hk hw)))
theorem qlnw_3 {x : qX} {S : qS} (hk : qkd x.1 x.2.1 x.2.2 S.1 = 1) (hw : qwd x.1 x.2.1 S.1 = qrw 3) : qline x S = qPas x 0 S := (if_neg (qIs_f (fun q => absurd (hw.symm.trans q.2) (by decide)))).trans ((if_neg (qIs_f (fun q => absurd (hw.symm.trans q.2) (by decide)))).trans ((if_neg (qIs_f (fun q => absurd (hw.symm.trans q.2) (by decide)))).trans (if_pos (qIs_t hk hw))))
theorem qlnw_4 {x : qX} {S : qS} (hk : qkd x.1 x.2.1 x.2.2 S.1 = 1) (hw : qwd x.1 x.2.1 S.1 = qrw 4) : qline x S = qPas x 1 S := (if_neg (qIs_f (fun q => absurd (hw.symm.trans q.2) (by decide)))).trans ((if_neg (qIs_f (fun q => absurd (hw.symm.trans q.2) (by decide)))).trans ((if_neg (qIs_f (fun q => absurd (hw.symm.trans q.2) (by decide)))).trans ((if_neg (qIs_f (fun q => absurd (hw.symm.trans q.2) (by decide)))).trans (if_pos (qIs_t hk hw)))))
theorem qlnw_5 {x : qX} {S : qS} (hk : qkd x.1 x.2.1 x.2.2 S.1 = 1) (hw : qwd x.1 x.2.1 S.1 = qrw 5) : qline x S = qAt x S := (if_neg (qIs_f (fun q => absurd (hw.symm.trans q.2) (by decide)))).trans ((if_neg (qIs_f (fun q => absurd (hw.symm.trans q.2) (by decide)))).trans ((if_neg (qIs_f (fun q => absurd (hw.symm.trans q.2) (by decide)))).trans ((if_neg (qIs_f (fun q => absurd (hw.symm.trans q.2) (by decide)))).trans ((if_neg (qIs_f (fun q => absurd (hw.symm.trans q.2) (by decide)))).trans (if_pos (qIs_t hk hw))))))
theorem qlnw_6 {x : qX} {S : qS} (hk : qkd x.1 x.2.1 x.2.2 S.1 = 1) (hw : qwd x.1 x.2.1 S.1 = qrw 6) : qline x S = qLet x S := (if_neg (qIs_f (fun q => absurd (hw.symm.trans q.2) (by decide)))).trans ((if_neg (qIs_f (fun q => absurd (hw.symm.trans q.2) (by decide)))).trans ((if_neg (qIs_f (fun q => absurd (hw.symm.trans q.2) (by decide)))).trans ((if_neg (qIs_f (fun q => absurd (hw.symm.trans q.2) (by decide)))).trans ((if_neg (qIs_f (fun q => absurd (hw.symm.trans q.2) (by decide)))).trans ((if_neg (qIs_f (fun q => absurd (hw.symm.trans q.2) (by decide)))).trans (if_pos (qIs_t hk hw)))))))
theorem qlnw_7 {x : qX} {S : qS} (hk : qkd x.1 x.2.1 x.2.2 S.1 = 1) (hw : qwd x.1 x.2.1 S.1 = qrw 7) : qline x S = qHeir x S := (if_neg (qIs_f (fun q => absurd (hw.symm.trans q.2) (by decide)))).trans ((if_neg (qIs_f (fun q => absurd (hw.symm.trans q.2) (by decide)))).trans ((if_neg (qIs_f (fun q => absurd (hw.symm.trans q.2) (by decide)))).trans ((if_neg (qIs_f (fun q => absurd (hw.symm.trans q.2) (by decide)))).trans ((if_neg (qIs_f (fun q => absurd (hw.symm.trans q.2) (by decide)))).trans ((if_neg (qIs_f (fun q => absurd (hw.symm.trans q.2) (by decide)))).trans ((if_neg (qIs_f (fun q => absurd (hw.symm.trans q.2) (by decide)))).trans (if_pos (qIs_t hk hw))))))))
theorem qlnw_8 {x : qX} {S : qS} (hk : qkd x.1 x.2.1 x.2.2 S.1 = 1) (hw : qwd x.1 x.2.1 S.1 = qrw 8) : qline x S = qLike x S := (if_neg (qIs_f (fun q => absurd (hw.symm.trans q.2) (by decide)))).trans ((if_neg (qIs_f (fun q => absurd (hw.symm.trans q.2) (by decide)))).trans ((if_neg (qIs_f (fun q => absurd (hw.symm.trans q.2) (by decide)))).trans ((if_neg (qIs_f (fun q => absurd (hw.symm.trans q.2) (by decide)))).trans ((if_neg (qIs_f (fun q => absurd (hw.symm.trans q.2) (by decide)))).trans ((if_neg (qIs_f (fun q => absurd (hw.symm.trans q.2) (by decide)))).trans ((if_neg (qIs_f (fun q => absurd (hw.symm.trans q.2) (by decide)))).trans ((if_neg (qIs_f (fun q => absurd (hw.symm.trans q.2) (by decide)))).trans (if_pos (qIs_t hk hw)))))))))
theorem qrw_9 : ∀ v : Nat, v < 30 → 9 ≤ v → ∀ j : Nat, j < 9 → ¬ qrw (v : Int) = qrw (j : Int) := by decide +kernel
theorem cT_kw {x : qX} {p : Int} {σ : vS} (h : cT x p σ) (hk : σ 7 4 = 2) : qkd x.1 x.2.1 x.2.2 p = 1 ∧ (0 ≤ σ 7 6 ∧ σ 7 6 < 30) ∧ qwd x.1 x.2.1 p = qrw (σ 7 6) := by
  rcases h.2.1.2 with ⟨a, b⟩ | ⟨a, b⟩ | ⟨a, ⟨b, c, d⟩ | ⟨b, c, d⟩ | ⟨b, c, d, ⟨e, g⟩ | ⟨e, g, k, l⟩⟩⟩
  · omega
  · omega
  · omega
  · omega
  · omega
  · exact ⟨b, k, l⟩
theorem cT_nk {x : qX} {p : Int} {σ : vS} (h : cT x p σ) (hk : ¬ (σ 7 4 = 2 ∧ σ 7 6 < 9)) : ∀ j : Int, 0 ≤ j → j < 9 → ¬ (qkd x.1 x.2.1 x.2.2 p = 1 ∧ qwd x.1 x.2.1 p = qrw j) := by
  rintro j j0 j1 ⟨q1, q2⟩
  rcases h.2.1.2 with ⟨a, b⟩ | ⟨a, b⟩ | ⟨a, ⟨b, c, d⟩ | ⟨b, c, d⟩ | ⟨b, c, d, ⟨e, g⟩ | ⟨e, g, k, l⟩⟩⟩
  · omega
  · omega
  · omega
  · omega
  · exact qnm_iff.mp e j j0 (by omega) q2
  · obtain ⟨v, hv⟩ := Int.eq_ofNat_of_zero_le k.1
    obtain ⟨n, rfl⟩ := Int.eq_ofNat_of_zero_le j0
    rw [l, hv] at q2
    exact qrw_9 v (by omega) (by omega) n (by omega) q2
theorem qNew_0 {x : qX} {k b most : Int} {S : qS} (hl : 0 ≤ x.2.2) (hS : qSb x S) (hk : (k = 0 ∧ most = 6) ∨ (k = 1 ∧ most = 6) ∨ (k = 2 ∧ most = 12)) (h : (qNew x k b most S).1 = 0) : qSb x (qNew x k b most S).2 ∧ (qNew x k b most S).2.2.1 k = S.2.1 k + 1 := by
  unfold qNew at h ⊢
  by_cases h1 : S.2.1 k = most
  · rw [if_pos h1] at h; exact absurd (show (4 : Int) = 0 from h) (by decide)
  · rw [if_neg h1] at h ⊢
    obtain ⟨a1, a2, a3⟩ := qbd_0 h
    rw [a3]
    have g := qfr_0 (p := 0) hl ⟨qSb_a hS hl, (qSb_a hS hl).1.1⟩ a1
    have e := congrFun (qfr_h a1) k
    have hb : 0 ≤ S.2.1 k ∧ S.2.1 k ≤ most := by rcases hk with ⟨rfl, rfl⟩ | ⟨rfl, rfl⟩ | ⟨rfl, rfl⟩; exact hS.2.1; exact hS.2.2.1; exact hS.2.2.2.1
    rw [qadv_2] at e
    have f := qOk_inc (k := k) (v := (qfr x (b + S.2.1 k) (qadv x S)).2.2.1 k + 1) g (by rw [e]; omega) (by rw [e]; omega)
    exact ⟨f.1, qup_s.trans (by rw [e])⟩
theorem qlk_i {x : qX} {a m : Int} {S : qS} : qlk x a m (qinc 2 S) = qlk x a m S := by unfold qlk qinc; rfl
/-- a ROOM: first the NAME is told, then its HOUSE and its OWNER -/
theorem qRoom_q {x : qX} {S : qS} : qEq (qbd (qNew x 2 12 12 S) (qHO x)) (qRoom x S) := by
  unfold qNew qRoom
  by_cases h1 : S.2.1 2 = 12
  · rw [if_pos h1, if_pos h1]
    have : qbd (4, S) (qHO x) = (4, S) := if_neg (show ¬ (4 : Int) = 0 by decide)
    rw [this]
    exact qEq_refl
  rw [if_neg h1, if_neg h1]
  by_cases h2 : (qfr x (12 + S.2.1 2) (qadv x S)).1 = 0
  · have e1 : qbd (qfr x (12 + S.2.1 2) (qadv x S)) (fun S => (0, qinc 2 S)) = (0, qinc 2 (qfr x (12 + S.2.1 2) (qadv x S)).2) := if_pos h2
    have e2 : ∀ c : qS → qR, qbd (qfr x (12 + S.2.1 2) (qadv x S)) c = c (qfr x (12 + S.2.1 2) (qadv x S)).2 := fun c => if_pos h2
    rw [e1, e2]
    have e3 : qbd (0, qinc 2 (qfr x (12 + S.2.1 2) (qadv x S)).2) (qHO x) = qHO x (qinc 2 (qfr x (12 + S.2.1 2) (qadv x S)).2) := if_pos rfl
    rw [e3]
    generalize (qfr x (12 + S.2.1 2) (qadv x S)).2 = R
    unfold qHO
    have i0 : (qinc 2 R).2.1 0 = R.2.1 0 := by unfold qinc; exact qup_o (f := R.2.1) (i := 2) (v := R.2.1 2 + 1) (j := 0) (by decide)
    have i1 : (qinc 2 R).2.1 1 = R.2.1 1 := by unfold qinc; exact qup_o (f := R.2.1) (i := 2) (v := R.2.1 2 + 1) (j := 1) (by decide)
    have a1 : qadv x (qinc 2 R) = qinc 2 (qadv x R) := by unfold qadv qinc; rfl
    rw [i0]
    by_cases c1 : qlk x 0 (R.2.1 0) R < 0
    · rw [qtn_f (S := R) c1, qtn_f (S := qinc 2 R) (by rw [qlk_i]; exact c1), qlk_i]
      exact ⟨rfl, fun q => by have q : -(qlk x 0 (R.2.1 0) R) = 0 := q; omega, by unfold qinc; rfl⟩
    · rw [qtn_k (S := R) (by omega), qtn_k (S := qinc 2 R) (by rw [qlk_i]; omega)]
      have a1 : qadv x (qinc 2 R) = qinc 2 (qadv x R) := by unfold qadv qinc; rfl
      rw [i1, a1]
      by_cases c2 : qlk x 6 (R.2.1 1) (qadv x R) < 0
      · rw [qtn_f (S := qadv x R) c2, qtn_f (S := qinc 2 (qadv x R)) (by rw [qlk_i]; exact c2), qlk_i]
        exact ⟨rfl, fun q => by have q : -(qlk x 6 (R.2.1 1) (qadv x R)) = 0 := q; omega, by unfold qinc; rfl⟩
      · rw [qtn_k (S := qadv x R) (by omega), qtn_k (S := qinc 2 (qadv x R)) (by rw [qlk_i]; omega)]
        have a2 : qadv x (qinc 2 (qadv x R)) = qinc 2 (qadv x (qadv x R)) := by unfold qadv qinc; rfl
        rw [a2]
        exact qEq_refl
  · have e1 : ∀ c : qS → qR, qbd (qfr x (12 + S.2.1 2) (qadv x S)) c = qfr x (12 + S.2.1 2) (qadv x S) := fun c => if_neg h2
    rw [e1, e1, e1]
    exact qEq_refl
theorem qfull_l {x : qX} {S : qS} (hl : 0 ≤ x.2.2) (hS : qSb x S) (h : (qfull x S).1 = 0) : S.1 < x.2.2 := by
  have hk : qkd x.1 x.2.1 x.2.2 S.1 = 1 := by
    by_cases q : qkd x.1 x.2.1 x.2.2 S.1 = 1
    · exact q
    · have e : qline x S = (1, S) := qline_n (fun j _ _ w => q w.1)
      unfold qfull at h
      obtain ⟨a, -, -⟩ := qbd_0 h
      rw [e] at a
      exact absurd (show (1 : Int) = 0 from a) (by decide)
  exact ((q_bd (τ := x.1) (n := x.2.1) (lim := x.2.2) (p := S.1) hS.1.1 hS.1.2 hl).2.1 (by omega)).2.2
noncomputable section
def vs93 : vSpL := fun vs σ K => match vs with
  | [.inr (.inl 9), .inr (.inl 7)] => ∃ x S, cT x S.1 σ ∧ cTb S σ ∧ qSb x S ∧ cRs x (qline x S) K
  | _ => False
def qz (nm : Int → Int) : qS := (0, fun _ => 0, nm)
def vs101 : vSpL := fun vs σ K => match vs with
  | [.inr (.inl 9), .inr (.inl 7)] => (∀ j : Int, 0 ≤ j → j < 30 → σ 35 j = qkc j) ∧ ∃ nm, ((qloop (ctx σ, σ 7 1, 900) 1000 0 (qz nm)).2.1 = 0 → ∀ σ2, σ2 7 2 = 0 → cTb (qloop (ctx σ, σ 7 1, 900) 1000 0 (qz nm)).2.2 σ2 → K (some (.inl (qloop (ctx σ, σ 7 1, 900) 1000 0 (qz nm)).1)) σ2) ∧ (¬ (qloop (ctx σ, σ 7 1, 900) 1000 0 (qz nm)).2.1 = 0 → ∀ σ2, σ2 7 2 = (qloop (ctx σ, σ 7 1, 900) 1000 0 (qz nm)).2.1 → -1 - σ2 7 3 = (qloop (ctx σ, σ 7 1, 900) 1000 0 (qz nm)).1 → K (some (.inl (-1))) σ2)
  | _ => False
def vL4 : List (Nat × vSpL) := (98, vs98) :: (95, vs95) :: (99, vs99) :: (100, vs100) :: (96, vs96) :: (94, vs94) :: (97, vs97) :: vL1
def vL5 : List (Nat × vSpL) := (93, vs93) :: (74, vs74) :: (304, vs304) :: vL1
end
section ZV5
variable {E : zE} {w : va_W} {σ : vS} {K : vKL}
theorem vL4_ok (X : zX gKX E) (B : zB E) : zSC E md72 w vL4 := zS_consC (vk_98 X B) (zS_consC (vk_95 X B) (zS_consC (vk_99 X B) (zS_consC (vk_100 X B) (zS_consC (vk_96 X B) (zS_consC (vk_94 X B) (zS_consC (vk_97 X B) (vL1_ok X B)))))))
set_option maxRecDepth 8192 in
theorem vk_93 (X : zX gKX E) (B : zB E) : zOKC E md72 w 93 vs93 := by
  intro q hq vs σ K h
  cases (show gMT 93 = some (gm_93, 2) from rfl).symm.trans hq
  unfold vs93 at h
  split at h
  · skip
    show zGC E md72 w gm_93 0 [(0, .inr (.inl 9)), (1, .inr (.inl 7))] σ K
    obtain ⟨x, S, hT, hB, hS, hK⟩ := h
    refine zbdC (fun hb => zgoC X B (vL4_ok X B) [] [] (fun m => false) (by decide +kernel) ?_)
    refine fun r hr => ?_
    refine And.intro (And.intro (fun (c1 : r = 0) => ?_) (And.intro (fun (c2 : r = 1) => ?_) (And.intro (fun (c3 : r = 2) => ?_) (And.intro (fun (c4 : r = 3) => ?_) (And.intro (fun (c5 : r = 4) => ?_) (And.intro (fun (c6 : r = 5) => ?_) (And.intro (fun (c7 : r = 6) => ?_) (And.intro (fun (c8 : r = 7) => ?_) (And.intro (fun (c9 : r = 8) => ?_) (trivial)))))))))) (fun (c10 : r < 0 ∨ 8 < r) => ?_)
    · have kk := cT_kw hT (by omega)
      have ew : qwd x.1 x.2.1 S.1 = qrw 0 := kk.2.2.trans (by rw [show σ 7 6 = 0 by omega])
      rw [qlnw_0 kk.1 ew] at hK
      have k4 : kw1 x S := ⟨by omega, by omega⟩
      refine ⟨by decide, x, S, hT, k4, hB, hS, fun _ => ⟨fun c σ1 F => ?_, fun c σ1 T B => ?_⟩, fun q => absurd q (by decide), fun q => absurd q (by decide)⟩
      · refine And.intro (show 0 ≤ 0 ∧ 0 ≤ 1 from by omega) ?_
        exact hK.1 c _ F
      · refine And.intro (show 0 ≤ 1 ∧ 1 ≤ 1 from by omega) ?_
        exact hK.2 c _ T B
    · have kk := cT_kw hT (by omega)
      have ew : qwd x.1 x.2.1 S.1 = qrw 1 := kk.2.2.trans (by rw [show σ 7 6 = 1 by omega])
      rw [qlnw_1 kk.1 ew] at hK
      have k4 : kw1 x S := ⟨by omega, by omega⟩
      refine ⟨by decide, x, S, hT, k4, hB, hS, fun q => absurd q (by decide), fun _ => ⟨fun c σ1 F => ?_, fun c σ1 T B => ?_⟩, fun q => absurd q (by decide)⟩
      · refine And.intro (show 0 ≤ 0 ∧ 0 ≤ 1 from by omega) ?_
        exact hK.1 c _ F
      · refine And.intro (show 0 ≤ 1 ∧ 1 ≤ 1 from by omega) ?_
        exact hK.2 c _ T B
    · have kk := cT_kw hT (by omega)
      have ew : qwd x.1 x.2.1 S.1 = qrw 2 := kk.2.2.trans (by rw [show σ 7 6 = 2 by omega])
      rw [qlnw_2 kk.1 ew] at hK
      have k4 : kw1 x S := ⟨by omega, by omega⟩
      refine ⟨by decide, x, S, hT, k4, hB, hS, fun q => absurd q (by decide), fun q => absurd q (by decide), fun _ => ⟨fun c σ1 F => ?_, fun c σ1 T B => ?_⟩⟩
      · refine And.intro (fun _ => ?_) (fun (q : ¬ 0 = 0) => absurd q (by decide))
        refine And.intro (show 0 ≤ 0 ∧ 0 ≤ 1 from by omega) ?_
        have hK := cRs_eq qRoom_q hK
        have e : qbd (qNew x 2 12 12 S) (qHO x) = qNew x 2 12 12 S := if_neg c
        rw [e] at hK
        exact hK.1 c _ F
      · have sb := qNew_0 hT.2.2.2.1 hS (by omega) c
        have m2 : σ1 79 2 = (qNew x 2 12 12 S).2.2.1 2 := B.1.1.2.2
        have hS2 := hS.2.2.2.1; have sb2 := sb.1.2.2.2.1
        refine And.intro (fun (q : 1 = 0) => absurd q (by decide)) (fun _ => ?_)
        refine And.intro (fun (q : 2 < 0) => absurd q (by decide)) (fun _ => ?_)
        refine And.intro (fun (q : 3 ≤ 2) => absurd q (by decide)) (fun _ => ?_)
        refine And.intro (show 0 ≤ 1 ∧ 1 ≤ 1 from by omega) ?_
        refine And.intro (fun (q : 1 = 0) => absurd q (by decide)) (fun _ => ?_)
        refine And.intro (show 0 ≤ 2 ∧ 2 < 3 from by omega) ?_
        refine And.intro (show -2147483648 ≤ ((σ1 79 2) - 1) ∧ ((σ1 79 2) - 1) ≤ 2147483647 from by omega) ?_
        refine ⟨(show 0 ≤ σ1 79 2 - 1 ∧ σ1 79 2 - 1 < 12 from by omega), x, (qNew x 2 12 12 S).2, T, B, sb.1, ⟨fun c2 σ2 F2 => ?_, fun c2 σ2 T2 B2 => ?_⟩⟩
        · refine And.intro (fun _ => ?_) (fun (q : ¬ 0 = 0) => absurd q (by decide))
          refine And.intro (show 0 ≤ 0 ∧ 0 ≤ 1 from by omega) ?_
          have hK := cRs_eq qRoom_q hK
          have e : qbd (qNew x 2 12 12 S) (qHO x) = qHO x (qNew x 2 12 12 S).2 := if_pos c
          rw [e] at hK
          exact hK.1 c2 _ F2
        · refine And.intro (fun (q : 1 = 0) => absurd q (by decide)) (fun _ => ?_)
          refine And.intro (show 0 ≤ 1 ∧ 1 ≤ 1 from by omega) ?_
          have hK := cRs_eq qRoom_q hK
          have e : qbd (qNew x 2 12 12 S) (qHO x) = qHO x (qNew x 2 12 12 S).2 := if_pos c
          rw [e] at hK
          exact hK.2 c2 _ T2 B2
    · have kk := cT_kw hT (by omega)
      have ew : qwd x.1 x.2.1 S.1 = qrw 3 := kk.2.2.trans (by rw [show σ 7 6 = 3 by omega])
      rw [qlnw_3 kk.1 ew] at hK
      have k4 : kw1 x S := ⟨by omega, by omega⟩
      refine ⟨by decide, x, S, hT, k4, hB, hS, ⟨fun c σ1 F => ?_, fun c σ1 T B => ?_⟩⟩
      · refine And.intro (show 0 ≤ 0 ∧ 0 ≤ 1 from by omega) ?_
        exact hK.1 c _ F
      · refine And.intro (show 0 ≤ 1 ∧ 1 ≤ 1 from by omega) ?_
        exact hK.2 c _ T B
    · have kk := cT_kw hT (by omega)
      have ew : qwd x.1 x.2.1 S.1 = qrw 4 := kk.2.2.trans (by rw [show σ 7 6 = 4 by omega])
      rw [qlnw_4 kk.1 ew] at hK
      have k4 : kw1 x S := ⟨by omega, by omega⟩
      refine ⟨by decide, x, S, hT, k4, hB, hS, ⟨fun c σ1 F => ?_, fun c σ1 T B => ?_⟩⟩
      · refine And.intro (show 0 ≤ 0 ∧ 0 ≤ 1 from by omega) ?_
        exact hK.1 c _ F
      · refine And.intro (show 0 ≤ 1 ∧ 1 ≤ 1 from by omega) ?_
        exact hK.2 c _ T B
    · have kk := cT_kw hT (by omega)
      have ew : qwd x.1 x.2.1 S.1 = qrw 5 := kk.2.2.trans (by rw [show σ 7 6 = 5 by omega])
      rw [qlnw_5 kk.1 ew] at hK
      have k4 : kw1 x S := ⟨by omega, by omega⟩
      refine ⟨x, S, hT, k4, hB, hS, ⟨fun c σ1 F => ?_, fun c σ1 T B => ?_⟩⟩
      · refine And.intro (show 0 ≤ 0 ∧ 0 ≤ 1 from by omega) ?_
        exact hK.1 c _ F
      · refine And.intro (show 0 ≤ 1 ∧ 1 ≤ 1 from by omega) ?_
        exact hK.2 c _ T B
    · have kk := cT_kw hT (by omega)
      have ew : qwd x.1 x.2.1 S.1 = qrw 6 := kk.2.2.trans (by rw [show σ 7 6 = 6 by omega])
      rw [qlnw_6 kk.1 ew] at hK
      have k4 : kw1 x S := ⟨by omega, by omega⟩
      refine ⟨x, S, hT, k4, hB, hS, ⟨fun c σ1 F => ?_, fun c σ1 T B => ?_⟩⟩
      · refine And.intro (show 0 ≤ 0 ∧ 0 ≤ 1 from by omega) ?_
        exact hK.1 c _ F
      · refine And.intro (show 0 ≤ 1 ∧ 1 ≤ 1 from by omega) ?_
        exact hK.2 c _ T B
    · have kk := cT_kw hT (by omega)
      have ew : qwd x.1 x.2.1 S.1 = qrw 7 := kk.2.2.trans (by rw [show σ 7 6 = 7 by omega])
      rw [qlnw_7 kk.1 ew] at hK
      have k4 : kw1 x S := ⟨by omega, by omega⟩
      refine ⟨x, S, hT, k4, hB, hS, ⟨fun c σ1 F => ?_, fun c σ1 T B => ?_⟩⟩
      · refine And.intro (show 0 ≤ 0 ∧ 0 ≤ 1 from by omega) ?_
        exact hK.1 c _ F
      · refine And.intro (show 0 ≤ 1 ∧ 1 ≤ 1 from by omega) ?_
        exact hK.2 c _ T B
    · have kk := cT_kw hT (by omega)
      have ew : qwd x.1 x.2.1 S.1 = qrw 8 := kk.2.2.trans (by rw [show σ 7 6 = 8 by omega])
      rw [qlnw_8 kk.1 ew] at hK
      have k4 : kw1 x S := ⟨by omega, by omega⟩
      refine ⟨x, S, hT, k4, hB, hS, ⟨fun c σ1 F => ?_, fun c σ1 T B => ?_⟩⟩
      · refine And.intro (show 0 ≤ 0 ∧ 0 ≤ 1 from by omega) ?_
        exact hK.1 c _ F
      · refine And.intro (show 0 ≤ 1 ∧ 1 ≤ 1 from by omega) ?_
        exact hK.2 c _ T B
    · refine And.intro (cT_fl hT (by omega)) ?_
      refine And.intro (show 0 ≤ 0 ∧ 0 ≤ 1 from by omega) ?_
      have kq : σ 7 4 = 2 → 0 ≤ σ 7 6 := fun q => (cT_kw hT q).2.1.1
      rw [qline_n (cT_nk hT (by omega))] at hK
      exact hK.1 (show ¬ (1 : Int) = 0 by decide) _ (cFl_of hT)
  · exact absurd h id
theorem vL5_ok (X : zX gKX E) (B : zB E) : zSC E md72 w vL5 := zS_consC (vk_93 X B) (zS_consC (vk_74 X B) (zS_consC (vk_304 X B) (vL1_ok X B)))
set_option maxRecDepth 8192 in
theorem vk_101l (X : zX gKX E) (B : zB E) {x : qX} (hl : 0 ≤ x.2.2 ∧ x.2.2 ≤ 900) : ∀ (k : Nat) (l : Int) (S : qS) (σ : vS), l + (k : Int) = 1000 → 0 ≤ l → l ≤ S.1 → l ≤ 900 → cT x S.1 σ → cTb S σ → qSb x S → ((qloop x k l S).2.1 = 0 → ∀ σ2, cT x (qloop x k l S).2.2.1 σ2 → cTb (qloop x k l S).2.2 σ2 → K (some (.inl (qloop x k l S).1)) σ2) → (¬ (qloop x k l S).2.1 = 0 → ∀ σ2, cFl x (qloop x k l S).2.1 (qloop x k l S).2.2.1 σ2 → K (some (.inl (-1))) σ2) → zGC E md72 w gm_101 23 [(0, .inr (.inl 9)), (1, .inr (.inl 7)), (2, .inl l)] σ K := by
  intro k
  induction k with
  | zero => intro l S σ h h0 h1 h2; omega
  | succ k ih =>
    intro l S σ hlk l0 lS l9 hT hB hS hC hF
    refine zbdC (fun hb => zgoC X B (vL5_ok X B) [] [(23, [0, 1, 2])] (fun m => Nat.beq m.2.2.2.2.2.2.length 33) (by decide +kernel) ?_)
    refine And.intro (fun (c1 : 900 < l) => ?_) (fun (c2 : l ≤ 900) => ?_)
    · exfalso; omega
    · have f3 : 0 ≤ σ 7 4 ∧ σ 7 4 ≤ 5 := zfC hb (t := 7) (f := 4) (by decide +kernel)
      refine And.intro (fun (c4 : ¬ (σ 7 4) = 0) => ?_) (fun (c5 : (σ 7 4) = 0) => ?_)
      · have hk0 : ¬ qtk x S = 0 := by show ¬ qkd x.1 x.2.1 x.2.2 S.1 = 0; have := (cT_k hT).1; omega
        refine ⟨x, S, hT, hB, hS, ⟨fun c σ1 F => ?_, fun c σ1 T B => ?_⟩⟩
        · refine And.intro (fun _ => ?_) (fun (q : ¬ 0 = 0) => absurd q (by decide))
          have eF : qfull x S = qline x S := qfull_f c
          have eQ : qloop x (k + 1) l S = (-1 - qat x.1 x.2.1 x.2.2 (qline x S).2.1, (qline x S).1, (qline x S).2) := (qloop_f hk0 (by rw [eF]; exact c)).trans (by rw [eF])
          rw [eQ] at hF
          exact hF c _ F
        · refine And.intro (fun (q : 1 = 0) => absurd q (by decide)) (fun _ => ?_)
          refine ⟨x, (qline x S).2.1, T, fun c2 σ2 F2 G2 => ?_, fun c2 σ2 T2 G2 => ?_⟩
          · refine And.intro (fun (q : ¬ 0 = 0) => absurd q (by decide)) (fun _ => ?_)
            have eF : qfull x S = (1, (qline x S).2) := qfull_n c c2
            have eQ : qloop x (k + 1) l S = (-1 - qat x.1 x.2.1 x.2.2 (qline x S).2.1, 1, (qline x S).2) := (qloop_f hk0 (by rw [eF]; exact (by decide : ¬ (1 : Int) = 0))).trans (by rw [eF])
            rw [eQ] at hF
            exact hF (show ¬ (1 : Int) = 0 by decide) _ F2
          · refine And.intro (fun _ => ?_) (fun (q : 1 = 0) => absurd q (by decide))
            refine And.intro (show -2147483648 ≤ (l + 1) ∧ (l + 1) ≤ 2147483647 from by omega) ?_
            have eF : qfull x S = (0, qadv x (qline x S).2) := qfull_s c c2
            have g := qfull_0 hl.1 hS (by rw [eF])
            have g3 := qfull_l hl.1 hS (by rw [eF])
            rw [eF] at g
            have g2 : S.1 + 1 ≤ (qadv x (qline x S).2).1 := g.2
            have eQ : qloop x (k + 1) l S = qloop x k (l + 1) (qadv x (qline x S).2) := (qloop_g hk0 (by rw [eF])).trans (by rw [eF])
            rw [eQ] at hC hF
            refine (show zGC E md72 w gm_101 23 [(0, .inr (.inl 9)), (1, .inr (.inl 7)), (2, .inl (l + 1))] σ2 K from ?_)
            exact ih (l + 1) (qadv x (qline x S).2) _ (by omega) (by omega) (by omega) (by omega) T2 (cTb_a (cTb_fr B G2.1)) g.1 hC hF
      · have eQ : qloop x (k + 1) l S = (l, 0, S) := qloop_e ((cT_k hT).1.mp (by omega))
        rw [eQ] at hC
        exact hC rfl _ hT hB
end ZV5
