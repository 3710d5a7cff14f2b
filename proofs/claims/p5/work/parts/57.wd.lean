/-! THE REFERENCE'S SENTENCE: operand, behind. -/
noncomputable section
def us247 : vSpL := fun vs σ K => match vs with
  | [.inr (.inl 12)] => ∃ (x : qX) (σ0 : vS) (d b : Int) (L : List Int) (o p u : Int), rQ x σ0 false d b L o p u σ ∧ ((0 ≤ σ0 52 0 ∧ σ0 52 0 ≤ 6) ∧ 0 ≤ σ0 52 1 ∧ σ0 52 1 ≤ 6) ∧ (¬ (qop x (σ0 55) (σ0 52 0) (σ0 52 1) d b L o p).1 = 0 → ∀ σ2 : vS, rFl x (qop x (σ0 55) (σ0 52 0) (σ0 52 1) d b L o p).1 (qop x (σ0 55) (σ0 52 0) (σ0 52 1) d b L o p).2.1 σ2 → σ2 55 = σ0 55 → σ2 52 = σ0 52 → K (some (.inl 0)) σ2) ∧ ((qop x (σ0 55) (σ0 52 0) (σ0 52 1) d b L o p).1 = 0 → ∀ (u2 : Int) (σ2 : vS), rQ x σ0 (qop x (σ0 55) (σ0 52 0) (σ0 52 1) d b L o p).2.2.1 (qop x (σ0 55) (σ0 52 0) (σ0 52 1) d b L o p).2.2.2.1 (qop x (σ0 55) (σ0 52 0) (σ0 52 1) d b L o p).2.2.2.2.1 (qop x (σ0 55) (σ0 52 0) (σ0 52 1) d b L o p).2.2.2.2.2.1 (qop x (σ0 55) (σ0 52 0) (σ0 52 1) d b L o p).2.2.2.2.2.2 (qop x (σ0 55) (σ0 52 0) (σ0 52 1) d b L o p).2.1 u2 σ2 → K (some (.inl 1)) σ2)
  | _ => False
def us180 : vSpL := fun vs σ K => match vs with
  | [.inr (.inl 12)] => ∃ (x : qX) (σ0 : vS) (d b : Int) (L : List Int) (o p u : Int), rQ x σ0 true d b L o p u σ ∧ ((0 ≤ σ0 52 0 ∧ σ0 52 0 ≤ 6) ∧ 0 ≤ σ0 52 1 ∧ σ0 52 1 ≤ 6) ∧ ¬ qkd x.1 x.2.1 x.2.2 p = 0 ∧ (¬ (qbh x b L o p).1 = 0 → ∀ σ2 : vS, rFl x (qbh x b L o p).1 (qbh x b L o p).2.1 σ2 → σ2 55 = σ0 55 → σ2 52 = σ0 52 → K (some (.inl 0)) σ2) ∧ ((qbh x b L o p).1 = 0 → ∀ (u2 : Int) (σ2 : vS), rQ x σ0 (qbh x b L o p).2.2.1 (qbh x b L o p).2.2.2.1 (qbh x b L o p).2.2.2.2.1 (qbh x b L o p).2.2.2.2.2.1 (qbh x b L o p).2.2.2.2.2.2 (qbh x b L o p).2.1 u2 σ2 → K (some (.inl 1)) σ2)
  | _ => False
def uSL : List (Nat × vSpL) := (233, us233) :: (243, us243) :: (231, us231) :: (223, rs223) :: (178, rs178) :: (207, rs207) :: (271, rs271) :: (228, rs228) :: (230, rs230) :: []
end
section QOPL
variable {x : qX} {nm : Int → Int} {mh mo d b o p : Int} {L : List Int}
theorem qop_1 (h : qbeg x p = -1) : qop x nm mh mo d b L o p = (1, (p, false, d, b, L, o)) := if_pos h
theorem qop_4 (h : ¬ qbeg x p = -1) (h2 : o = 20 ∨ 8 < d) : qop x nm mh mo d b L o p = (4, (p, false, d, b, L, o)) := (if_neg h).trans (if_pos h2)
theorem qop_8 (h : qbeg x p = 8) (h2 : ¬ (o = 20 ∨ 8 < d)) : qop x nm mh mo d b L o p = (0, (qnx x.1 x.2.1 p, false, d + 1, b, L, o + 1)) := (if_neg (by omega)).trans ((if_neg h2).trans (if_pos h))
theorem qop_9 (h : qbeg x p = 9) (h2 : ¬ (o = 20 ∨ 8 < d)) : qop x nm mh mo d b L o p = (0, (qnx x.1 x.2.1 p, false, d + 1, d + 1, b :: L, o + 1)) := (if_neg (by omega)).trans ((if_neg h2).trans ((if_neg (by omega)).trans (if_pos h)))
theorem qop_l (h : 0 ≤ qbeg x p ∧ qbeg x p < 2) (h2 : ¬ (o = 20 ∨ 8 < d)) : qop x nm mh mo d b L o p = (0, (qnx x.1 x.2.1 p, true, d, b, L, o + 1)) := (if_neg (by omega)).trans ((if_neg h2).trans ((if_neg (by omega)).trans ((if_neg (by omega)).trans (if_pos h.2))))
theorem qop_m (h : 2 ≤ qbeg x p ∧ qbeg x p < 4) (h2 : ¬ (o = 20 ∨ 8 < d)) : qop x nm mh mo d b L o p = if qofn x nm mh mo (qbeg x p) (qnx x.1 x.2.1 p) < 0 then (-(qofn x nm mh mo (qbeg x p) (qnx x.1 x.2.1 p)), (qnx x.1 x.2.1 p, true, d, b, L, o + 1)) else (0, (qnx x.1 x.2.1 (qnx x.1 x.2.1 p), true, d, b, L, o + 1)) := (if_neg (by omega)).trans ((if_neg h2).trans ((if_neg (by omega)).trans ((if_neg (by omega)).trans ((if_neg (by omega)).trans (if_pos h.2)))))
theorem qop_s (h : 4 ≤ qbeg x p ∧ qbeg x p < 8) (h2 : ¬ (o = 20 ∨ 8 < d)) : qop x nm mh mo d b L o p = if qsg3 x (qnx x.1 x.2.1 p) = true then (if qkd x.1 x.2.1 x.2.2 (qnx x.1 x.2.1 (qnx x.1 x.2.1 p)) = 2 then (0, (qnx x.1 x.2.1 (qnx x.1 x.2.1 (qnx x.1 x.2.1 p)), true, d, b, L, o + 1)) else (1, (qnx x.1 x.2.1 (qnx x.1 x.2.1 p), true, d, b, L, o + 1))) else (1, (qnx x.1 x.2.1 p, true, d, b, L, o + 1)) := (if_neg (by omega)).trans ((if_neg h2).trans ((if_neg (by omega)).trans ((if_neg (by omega)).trans ((if_neg (by omega)).trans (if_neg (by omega))))))
theorem qbh_j (h : qisw x p (qrw 20) = true ∨ qisw x p (qrw 19) = true) : qbh x b L o p = (0, (qnx x.1 x.2.1 p, false, b, b, L, o)) := if_pos h
theorem qbh_e (h : ¬ (qisw x p (qrw 20) = true ∨ qisw x p (qrw 19) = true)) : qbh x b [] o p = (1, (p, true, b, b, [], o)) := if_neg h
theorem qbh_p {b2 : Int} {L2 : List Int} (h : ¬ (qisw x p (qrw 20) = true ∨ qisw x p (qrw 19) = true)) (h2 : qsn x p 41 = true) : qbh x b (b2 :: L2) o p = (0, (qnx x.1 x.2.1 p, true, b - 1, b2, L2, o)) := (if_neg h).trans (if_pos h2)
theorem qbh_f (h : ¬ (qisw x p (qrw 20) = true ∨ qisw x p (qrw 19) = true)) (h2 : ¬ qsn x p 41 = true) : qbh x b L o p = (1, (p, true, b, b, L, o)) := by
  cases L with
  | nil => exact qbh_e h
  | cons b2 L2 => exact (if_neg h).trans (if_neg h2)
theorem qisw_k {v : Int} (h : qisw x p v = true) : qkd x.1 x.2.1 x.2.2 p = 1 := by
  unfold qisw at h
  rw [Bool.and_eq_true, decide_eq_true_iff] at h
  exact h.1
theorem qsn_k {c : Int} (h : qsn x p c = true) : qkd x.1 x.2.1 x.2.2 p = 3 := by
  unfold qsn at h
  rw [Bool.and_eq_true, decide_eq_true_iff] at h
  exact h.1
theorem qlfi_k (h : 0 ≤ qlfi x p) : qkd x.1 x.2.1 x.2.2 p = 1 := by
  unfold qlfi at h
  split at h
  · rename_i q; exact qisw_k q
  split at h
  · rename_i q; exact qisw_k q
  split at h
  · rename_i q; exact qisw_k q
  split at h
  · rename_i q; exact qisw_k q
  split at h
  · rename_i q; exact qisw_k q
  split at h
  · rename_i q; exact qisw_k q
  split at h
  · rename_i q; exact qisw_k q
  split at h
  · rename_i q; exact qisw_k q
  omega
theorem qbeg_k (h : ¬ qbeg x p = -1) : ¬ qkd x.1 x.2.1 x.2.2 p = 4 := by
  unfold qbeg at h
  split at h
  · rename_i q; have := qisw_k q; omega
  split at h
  · rename_i q; have := qsn_k q; omega
  have := qlfi_b (x := x) (p := p)
  have := qlfi_k (x := x) (p := p) (by omega)
  omega
theorem qsg3_iff {σ : vS} (hT : rT x p σ) : qsg3 x p = true ↔ σ 12 11 = 3 ∧ 60 ≤ σ 12 14 ∧ σ 12 14 ≤ 62 := by
  unfold qsg3
  rw [Bool.and_eq_true, Bool.and_eq_true, decide_eq_true_iff, decide_eq_true_iff, decide_eq_true_iff, hT.2.1.1]
  constructor
  · rintro ⟨a, c, e⟩
    rw [← hT.2.1.2.2.2.1 (Or.inr a)] at c e
    exact ⟨a, c, e⟩
  · rintro ⟨a, c, e⟩
    rw [hT.2.1.2.2.2.1 (Or.inr a)] at c e
    exact ⟨a, c, e⟩
theorem qvl_d {τ : Int → Int} {n lim p : Int} (h : qkd τ n lim p = 2) : 0 ≤ qvl τ n p ∧ qvl τ n p ≤ 99 := by
  unfold qkd at h
  unfold qvl
  split at h
  · omega
  split at h
  · omega
  split at h
  · rename_i h3
    rw [if_pos h3]
    split at h
    · omega
    split at h
    · rename_i h4
      obtain ⟨h4, h5⟩ := h4
      have h6 := qds_iff.mp h4
      generalize qK τ n (qB τ n p) = k at h5 h6
      match k, h5, h6 with
      | 0, _, _ => exact ⟨Int.le_refl 0, (by decide : (0 : Int) ≤ 99)⟩
      | 1, _, h6 =>
        have a := h6 0 (by decide)
        show 0 ≤ 10 * 0 + τ (qB τ n p + ((0 : Nat) : Int)) - 48 ∧ 10 * 0 + τ (qB τ n p + ((0 : Nat) : Int)) - 48 ≤ 99
        omega
      | 2, _, h6 =>
        have a := h6 0 (by decide)
        have c := h6 1 (by decide)
        show 0 ≤ 10 * (10 * 0 + τ (qB τ n p + ((0 : Nat) : Int)) - 48) + τ (qB τ n p + ((1 : Nat) : Int)) - 48 ∧ 10 * (10 * 0 + τ (qB τ n p + ((0 : Nat) : Int)) - 48) + τ (qB τ n p + ((1 : Nat) : Int)) - 48 ≤ 99
        omega
    · omega
  · split at h <;> omega
end QOPL
section ZV3
variable {E : zE} {w : va_W} {σ : vS} {K : vKL}
theorem uSL_ok (X : zX gKX E) (B : zB E) : zSL E gJ1 mdT w uSL := zS_consL (uk_233 X B) (zS_consL (uk_243 X B) (zS_consL (uk_231 X B) (zS_consL (rk_223 X B) (zS_consL (rk_178 X B) (zS_consL (rk_207 X B) (zS_consL (rk_271 X B) (zS_consL (rk_228 X B) (zS_consL (rk_230 X B) zS_nilL))))))))
theorem qofn_n {x : qX} {nm : Int → Int} {mh mo k p : Int} (h : ¬ qnmp x p = true) : qofn x nm mh mo k p = -1 := by
  unfold qofn
  rw [qlf_eq, if_neg h]
set_option maxRecDepth 16384 in
theorem uk_247 (X : zX gKX E) (B : zB E) : zOKL E gJ1 mdT w 247 us247 := by
  intro q hq vs σ K h
  cases (show gMT 247 = some (gm_247, 5) from rfl).symm.trans hq
  unfold us247 at h
  split at h
  · obtain ⟨x, σ0, d, b, L, o, p, u, hQ, hm, h0, h1⟩ := h
    show zGL E gJ1 mdT w gm_247 0 [(0, .inr (.inl 12))] σ K
    have hT := hQ.1
    have hbd := zIw_b hQ.2.1 (by have : σ 12 50 = 0 := hQ.2.2.1.1; omega)
    have h50 : σ 12 50 = 0 := hQ.2.2.1.1
    have h47 := hQ.2.2.1.2
    have h49 := hQ.2.2.2.1.2.1
    have h9 := hQ.2.2.2.1.2.2
    have hrb := rst_b hQ.2.2.2.1.1
    refine zbdL (fun hb => ?_)
    have hl0 := (lim_ok B hb hT.1).1
    refine zbdL (fun hb => zgoL X B (uSL_ok X B) [] [] (fun m => false) (by decide +kernel) ?_)
    refine fun z (t1 : (z = 1 ∧ σ 12 11 = 1 ∧ σ 12 17 = 7237492) ∨ (z = 0 ∧ ¬ (σ 12 11 = 1 ∧ σ 12 17 = 7237492))) => ?_
    rcases t1 with ⟨rfl, t1⟩ | ⟨rfl, t1⟩
    · refine fun z (t2 : (z = 1 ∧ σ 12 11 = 3 ∧ σ 12 14 = 40) ∨ (z = 0 ∧ ¬ (σ 12 11 = 3 ∧ σ 12 14 = 40))) => ?_
      rcases t2 with ⟨rfl, t2⟩ | ⟨rfl, t2⟩
      · exfalso; omega
      · refine ⟨x, p, hT, ?_⟩
        have hl := qlfi_b (x := x) (p := p)
        have hB : qbeg x p = 8 := if_pos (qisw_t hT (v := qrw 21) t1)
        refine And.intro (fun _ => ?_) (fun (q : 1 = 0) => absurd q (by decide))
        have f3 : (-2147483648) ≤ σ 12 47 ∧ σ 12 47 ≤ 2147483647 := zfL B hb (t := 12) (f := 47) (by decide +kernel)
        refine And.intro (fun (c4 : (σ 12 47) = 20) => ?_) (fun (c5 : ¬ (σ 12 47) = 20) => ?_)
        · refine And.intro (by omega) ?_
          refine And.intro (show 0 ≤ 0 ∧ 0 ≤ 1 from by omega) ?_
          have eP : (qop x (σ0 55) (σ0 52 0) (σ0 52 1) d b L o p) = (4, (p, false, d, b, L, o)) := qop_4 (by omega) (by omega)
          rw [eP] at h0
          exact h0 (by show ¬ ((4:Int) = 0); decide) _ (rFl_bad hT) ((vup_fr (by decide)).trans ((vup_fr (by decide)).trans hQ.2.2.2.2.1)) ((vup_fr (by decide)).trans ((vup_fr (by decide)).trans hQ.2.2.2.2.2))
        · have f6 : (-2147483648) ≤ σ 12 49 ∧ σ 12 49 ≤ 2147483647 := zfL B hb (t := 12) (f := 49) (by decide +kernel)
          refine And.intro (fun (c7 : (σ 12 49) ≤ 8) => ?_) (fun (c8 : 8 < (σ 12 49)) => ?_)
          · refine And.intro (show -2147483648 ≤ ((σ 12 47) + 1) ∧ ((σ 12 47) + 1) ≤ 2147483647 from by omega) ?_
            refine And.intro (show Int.negSucc 2147483647 ≤ ((σ 12 47) + 1) ∧ ((σ 12 47) + 1) ≤ 2147483647 from rgm (by omega)) ?_
            refine fun (σ1 : vS) (f1 : rfr (vup σ 12 47 ((σ 12 47) + 1)) σ1) (t1 : rtk (rtx (vup σ 12 47 ((σ 12 47) + 1))) ((vup σ 12 47 ((σ 12 47) + 1)) 12 3) ((vup σ 12 47 ((σ 12 47) + 1)) 12 5) (tE (fun q => tbk (rtx (vup σ 12 47 ((σ 12 47) + 1)) q)) ((vup σ 12 47 ((σ 12 47) + 1)) 12 3) ((vup σ 12 47 ((σ 12 47) + 1)) 12 4)) σ1) => ?_
            have T1 : rT x (qnx x.1 x.2.1 p) σ1 := rT_next (rT_u hT (by decide)) (qbeg_k (by omega)) hl0 f1 t1
            obtain ⟨s1, e1⟩ := rSm_of f1
            have k46 := s1.2.1; have k48 := s1.2.2.1; have k49 := s1.2.2.2.1; have k50 := s1.2.2.2.2
            refine And.intro (fun _ => ?_) (fun (q : 1 = 0) => absurd q (by decide))
            refine And.intro (fun (q : 1 = 0) => absurd q (by decide)) (fun _ => ?_)
            refine And.intro (show 0 ≤ (σ1 12 48) ∧ (σ1 12 48) < 45 from by omega) ?_
            refine And.intro (show Int.negSucc 2147483647 ≤ 20 ∧ 20 ≤ 2147483647 from rgm (by omega)) ?_
            refine And.intro (show -2147483648 ≤ ((σ1 12 48) + 1) ∧ ((σ1 12 48) + 1) ≤ 2147483647 from by omega) ?_
            refine And.intro (show 0 ≤ ((σ1 12 48) + 1) ∧ ((σ1 12 48) + 1) ≤ 45 from by omega) ?_
            refine And.intro (show -2147483648 ≤ ((σ1 12 49) + 1) ∧ ((σ1 12 49) + 1) ≤ 2147483647 from by omega) ?_
            refine And.intro (show Int.negSucc 2147483647 ≤ ((σ1 12 49) + 1) ∧ ((σ1 12 49) + 1) ≤ 2147483647 from rgm (by omega)) ?_
            refine And.intro (show 0 ≤ 1 ∧ 1 ≤ 1 from by omega) ?_
            have eP : (qop x (σ0 55) (σ0 52 0) (σ0 52 1) d b L o p) = (0, ((qnx x.1 x.2.1 p), false, d + 1, b, L, o + 1)) := qop_8 hB (by omega)
            rw [eP] at h1
            exact h1 rfl _ _ (rQ_n hQ (by omega) (by omega) s1 (by omega) T1)
          · refine And.intro (by omega) ?_
            refine And.intro (show 0 ≤ 0 ∧ 0 ≤ 1 from by omega) ?_
            have eP : (qop x (σ0 55) (σ0 52 0) (σ0 52 1) d b L o p) = (4, (p, false, d, b, L, o)) := qop_4 (by omega) (by omega)
            rw [eP] at h0
            exact h0 (by show ¬ ((4:Int) = 0); decide) _ (rFl_bad hT) ((vup_fr (by decide)).trans ((vup_fr (by decide)).trans hQ.2.2.2.2.1)) ((vup_fr (by decide)).trans ((vup_fr (by decide)).trans hQ.2.2.2.2.2))
    · refine fun z (t9 : (z = 1 ∧ σ 12 11 = 3 ∧ σ 12 14 = 40) ∨ (z = 0 ∧ ¬ (σ 12 11 = 3 ∧ σ 12 14 = 40))) => ?_
      rcases t9 with ⟨rfl, t9⟩ | ⟨rfl, t9⟩
      · refine ⟨x, p, hT, ?_⟩
        have hl := qlfi_b (x := x) (p := p)
        have hB : qbeg x p = 9 := (if_neg (by rw [qisw_f hT (v := qrw 21) t1]; exact Bool.false_ne_true)).trans (if_pos ((qsn_iff hT).mpr t9))
        refine And.intro (fun (q : ¬ 0 = 0) => absurd q (by decide)) (fun _ => ?_)
        refine And.intro (fun _ => ?_) (fun (q : 1 = 0) => absurd q (by decide))
        have f10 : (-2147483648) ≤ σ 12 47 ∧ σ 12 47 ≤ 2147483647 := zfL B hb (t := 12) (f := 47) (by decide +kernel)
        refine And.intro (fun (c11 : (σ 12 47) = 20) => ?_) (fun (c12 : ¬ (σ 12 47) = 20) => ?_)
        · refine And.intro (by omega) ?_
          refine And.intro (show 0 ≤ 0 ∧ 0 ≤ 1 from by omega) ?_
          have eP : (qop x (σ0 55) (σ0 52 0) (σ0 52 1) d b L o p) = (4, (p, false, d, b, L, o)) := qop_4 (by omega) (by omega)
          rw [eP] at h0
          exact h0 (by show ¬ ((4:Int) = 0); decide) _ (rFl_bad hT) ((vup_fr (by decide)).trans ((vup_fr (by decide)).trans hQ.2.2.2.2.1)) ((vup_fr (by decide)).trans ((vup_fr (by decide)).trans hQ.2.2.2.2.2))
        · have f13 : (-2147483648) ≤ σ 12 49 ∧ σ 12 49 ≤ 2147483647 := zfL B hb (t := 12) (f := 49) (by decide +kernel)
          refine And.intro (fun (c14 : (σ 12 49) ≤ 8) => ?_) (fun (c15 : 8 < (σ 12 49)) => ?_)
          · refine And.intro (show -2147483648 ≤ ((σ 12 47) + 1) ∧ ((σ 12 47) + 1) ≤ 2147483647 from by omega) ?_
            refine And.intro (show Int.negSucc 2147483647 ≤ ((σ 12 47) + 1) ∧ ((σ 12 47) + 1) ≤ 2147483647 from rgm (by omega)) ?_
            refine fun (σ1 : vS) (f1 : rfr (vup σ 12 47 ((σ 12 47) + 1)) σ1) (t1 : rtk (rtx (vup σ 12 47 ((σ 12 47) + 1))) ((vup σ 12 47 ((σ 12 47) + 1)) 12 3) ((vup σ 12 47 ((σ 12 47) + 1)) 12 5) (tE (fun q => tbk (rtx (vup σ 12 47 ((σ 12 47) + 1)) q)) ((vup σ 12 47 ((σ 12 47) + 1)) 12 3) ((vup σ 12 47 ((σ 12 47) + 1)) 12 4)) σ1) => ?_
            have T1 : rT x (qnx x.1 x.2.1 p) σ1 := rT_next (rT_u hT (by decide)) (qbeg_k (by omega)) hl0 f1 t1
            obtain ⟨s1, e1⟩ := rSm_of f1
            have k46 := s1.2.1; have k48 := s1.2.2.1; have k49 := s1.2.2.2.1; have k50 := s1.2.2.2.2
            refine And.intro (fun (q : ¬ 0 = 0) => absurd q (by decide)) (fun _ => ?_)
            refine And.intro (fun (q : 1 = 0) => absurd q (by decide)) (fun _ => ?_)
            refine And.intro (fun _ => ?_) (fun (q : ¬ 0 = 0) => absurd q (by decide))
            refine And.intro (show 0 ≤ (σ1 12 48) ∧ (σ1 12 48) < 45 from by omega) ?_
            refine And.intro (show Int.negSucc 2147483647 ≤ 23 ∧ 23 ≤ 2147483647 from rgm (by omega)) ?_
            refine And.intro (show -2147483648 ≤ ((σ1 12 48) + 1) ∧ ((σ1 12 48) + 1) ≤ 2147483647 from by omega) ?_
            refine And.intro (show 0 ≤ ((σ1 12 48) + 1) ∧ ((σ1 12 48) + 1) ≤ 45 from by omega) ?_
            refine And.intro (show -2147483648 ≤ ((σ1 12 49) + 1) ∧ ((σ1 12 49) + 1) ≤ 2147483647 from by omega) ?_
            refine And.intro (show Int.negSucc 2147483647 ≤ ((σ1 12 49) + 1) ∧ ((σ1 12 49) + 1) ≤ 2147483647 from rgm (by omega)) ?_
            refine And.intro (show 0 ≤ 1 ∧ 1 ≤ 1 from by omega) ?_
            have eP : (qop x (σ0 55) (σ0 52 0) (σ0 52 1) d b L o p) = (0, ((qnx x.1 x.2.1 p), false, d + 1, d + 1, b :: L, o + 1)) := qop_9 hB (by omega)
            rw [eP] at h1
            exact h1 rfl _ _ (rQ_o hQ (by omega) (by omega) s1 (by omega) T1)
          · refine And.intro (by omega) ?_
            refine And.intro (show 0 ≤ 0 ∧ 0 ≤ 1 from by omega) ?_
            have eP : (qop x (σ0 55) (σ0 52 0) (σ0 52 1) d b L o p) = (4, (p, false, d, b, L, o)) := qop_4 (by omega) (by omega)
            rw [eP] at h0
            exact h0 (by show ¬ ((4:Int) = 0); decide) _ (rFl_bad hT) ((vup_fr (by decide)).trans ((vup_fr (by decide)).trans hQ.2.2.2.2.1)) ((vup_fr (by decide)).trans ((vup_fr (by decide)).trans hQ.2.2.2.2.2))
      · refine ⟨x, p, hT, ?_⟩
        have hl := qlfi_b (x := x) (p := p)
        have hB : qbeg x p = qlfi x p := (if_neg (by rw [qisw_f hT (v := qrw 21) t1]; exact Bool.false_ne_true)).trans (if_neg (fun q => t9 ((qsn_iff hT).mp q)))
        refine And.intro (fun (q : ¬ 0 = 0) => absurd q (by decide)) (fun _ => ?_)
        refine And.intro (fun (q : ¬ 0 = 0) => absurd q (by decide)) (fun _ => ?_)
        refine And.intro (fun (c16 : 0 ≤ (qlfi x p)) => ?_) (fun (c17 : (qlfi x p) < 0) => ?_)
        · have f18 : (-2147483648) ≤ σ 12 47 ∧ σ 12 47 ≤ 2147483647 := zfL B hb (t := 12) (f := 47) (by decide +kernel)
          refine And.intro (fun (c19 : (σ 12 47) = 20) => ?_) (fun (c20 : ¬ (σ 12 47) = 20) => ?_)
          · refine And.intro (by omega) ?_
            refine And.intro (show 0 ≤ 0 ∧ 0 ≤ 1 from by omega) ?_
            have eP : (qop x (σ0 55) (σ0 52 0) (σ0 52 1) d b L o p) = (4, (p, false, d, b, L, o)) := qop_4 (by omega) (by omega)
            rw [eP] at h0
            exact h0 (by show ¬ ((4:Int) = 0); decide) _ (rFl_bad hT) ((vup_fr (by decide)).trans ((vup_fr (by decide)).trans hQ.2.2.2.2.1)) ((vup_fr (by decide)).trans ((vup_fr (by decide)).trans hQ.2.2.2.2.2))
          · have f21 : (-2147483648) ≤ σ 12 49 ∧ σ 12 49 ≤ 2147483647 := zfL B hb (t := 12) (f := 49) (by decide +kernel)
            refine And.intro (fun (c22 : (σ 12 49) ≤ 8) => ?_) (fun (c23 : 8 < (σ 12 49)) => ?_)
            · refine And.intro (show -2147483648 ≤ ((σ 12 47) + 1) ∧ ((σ 12 47) + 1) ≤ 2147483647 from by omega) ?_
              refine And.intro (show Int.negSucc 2147483647 ≤ ((σ 12 47) + 1) ∧ ((σ 12 47) + 1) ≤ 2147483647 from rgm (by omega)) ?_
              refine fun (σ1 : vS) (f1 : rfr (vup σ 12 47 ((σ 12 47) + 1)) σ1) (t1 : rtk (rtx (vup σ 12 47 ((σ 12 47) + 1))) ((vup σ 12 47 ((σ 12 47) + 1)) 12 3) ((vup σ 12 47 ((σ 12 47) + 1)) 12 5) (tE (fun q => tbk (rtx (vup σ 12 47 ((σ 12 47) + 1)) q)) ((vup σ 12 47 ((σ 12 47) + 1)) 12 3) ((vup σ 12 47 ((σ 12 47) + 1)) 12 4)) σ1) => ?_
              have T1 : rT x (qnx x.1 x.2.1 p) σ1 := rT_next (rT_u hT (by decide)) (qbeg_k (by omega)) hl0 f1 t1
              obtain ⟨s1, e1⟩ := rSm_of f1
              have k46 := s1.2.1; have k48 := s1.2.2.1; have k49 := s1.2.2.2.1; have k50 := s1.2.2.2.2
              refine And.intro (fun (q : ¬ 0 = 0) => absurd q (by decide)) (fun _ => ?_)
              refine And.intro (fun _ => ?_) (fun (q : ¬ 0 = 0) => absurd q (by decide))
              refine And.intro (show 0 ≤ 1 ∧ 1 ≤ 1 from by omega) ?_
              refine And.intro (show 0 ≤ 1 ∧ 1 ≤ 1 from by omega) ?_
              refine And.intro (fun (c24 : 2 ≤ (qlfi x p)) => ?_) (fun (c25 : (qlfi x p) < 2) => ?_)
              · refine And.intro (fun (c26 : 4 ≤ (qlfi x p)) => ?_) (fun (c27 : (qlfi x p) < 4) => ?_)
                · refine And.intro (fun (c28 : ¬ (σ1 12 11) = 3) => ?_) (fun (c29 : (σ1 12 11) = 3) => ?_)
                  · refine And.intro (by omega) ?_
                    refine And.intro (show 0 ≤ 0 ∧ 0 ≤ 1 from by omega) ?_
                    have eP : (qop x (σ0 55) (σ0 52 0) (σ0 52 1) d b L o p) = (1, ((qnx x.1 x.2.1 p), true, d, b, L, o + 1)) := (qop_s (by omega) (by omega)).trans (if_neg (fun q => by have := (qsg3_iff T1).mp q; omega))
                    rw [eP] at h0
                    exact h0 (by show ¬ ((1:Int) = 0); decide) _ (rFl_bad (rT_u T1 (by decide))) ((vup_fr (by decide)).trans ((vup_fr (by decide)).trans ((vup_fr (by decide)).trans ((s1.1 55 (by decide)).trans hQ.2.2.2.2.1)))) ((vup_fr (by decide)).trans ((vup_fr (by decide)).trans ((vup_fr (by decide)).trans ((s1.1 52 (by decide)).trans hQ.2.2.2.2.2))))
                  · refine And.intro (fun (c30 : (σ1 12 14) < 60) => ?_) (fun (c31 : 60 ≤ (σ1 12 14)) => ?_)
                    · refine And.intro (by omega) ?_
                      refine And.intro (show 0 ≤ 0 ∧ 0 ≤ 1 from by omega) ?_
                      have eP : (qop x (σ0 55) (σ0 52 0) (σ0 52 1) d b L o p) = (1, ((qnx x.1 x.2.1 p), true, d, b, L, o + 1)) := (qop_s (by omega) (by omega)).trans (if_neg (fun q => by have := (qsg3_iff T1).mp q; omega))
                      rw [eP] at h0
                      exact h0 (by show ¬ ((1:Int) = 0); decide) _ (rFl_bad (rT_u T1 (by decide))) ((vup_fr (by decide)).trans ((vup_fr (by decide)).trans ((vup_fr (by decide)).trans ((s1.1 55 (by decide)).trans hQ.2.2.2.2.1)))) ((vup_fr (by decide)).trans ((vup_fr (by decide)).trans ((vup_fr (by decide)).trans ((s1.1 52 (by decide)).trans hQ.2.2.2.2.2))))
                    · refine And.intro (fun (c32 : (σ1 12 14) ≤ 62) => ?_) (fun (c33 : 62 < (σ1 12 14)) => ?_)
                      · refine fun (σ2 : vS) (f2 : rfr (vup σ1 12 50 1) σ2) (t2 : rtk (rtx (vup σ1 12 50 1)) ((vup σ1 12 50 1) 12 3) ((vup σ1 12 50 1) 12 5) (tE (fun q => tbk (rtx (vup σ1 12 50 1) q)) ((vup σ1 12 50 1) 12 3) ((vup σ1 12 50 1) 12 4)) σ2) => ?_
                        have T2 : rT x (qnx x.1 x.2.1 (qnx x.1 x.2.1 p)) σ2 := rT_next (rT_u T1 (by decide)) (by have := T1.2.1.1; first | omega | (have := qnmp_k (by assumption : qnmp x (qnx x.1 x.2.1 p) = true); omega)) hl0 f2 t2
                        have k46_2 : σ2 12 46 = σ1 12 46 := f2.2 46 (by decide) (by decide) (by decide) (by decide) (by decide) (by decide)
                        have k47_2 : σ2 12 47 = σ1 12 47 := f2.2 47 (by decide) (by decide) (by decide) (by decide) (by decide) (by decide)
                        have k48_2 : σ2 12 48 = σ1 12 48 := f2.2 48 (by decide) (by decide) (by decide) (by decide) (by decide) (by decide)
                        have k49_2 : σ2 12 49 = σ1 12 49 := f2.2 49 (by decide) (by decide) (by decide) (by decide) (by decide) (by decide)
                        have k50_2 : σ2 12 50 = 1 := f2.2 50 (by decide) (by decide) (by decide) (by decide) (by decide) (by decide)
                        have v2 : σ2 12 11 = 2 → (0 ≤ σ2 12 14 ∧ σ2 12 14 ≤ 99) := fun q => by have e := T2.2.1.1.symm.trans q; have b := qvl_d e; rw [← T2.2.1.2.2.2.1 (Or.inl e)] at b; exact b
                        refine And.intro (fun (c34 : (σ2 12 11) = 2) => ?_) (fun (c35 : ¬ (σ2 12 11) = 2) => ?_)
                        · refine And.intro (show -2147483648 ≤ (3 * (σ2 12 46)) ∧ (3 * (σ2 12 46)) ≤ 2147483647 from by omega) ?_
                          refine And.intro (show 0 ≤ (3 * (σ2 12 46)) ∧ (3 * (σ2 12 46)) < 160 from by omega) ?_
                          refine And.intro (show Int.negSucc 2147483647 ≤ (qlfi x p) ∧ (qlfi x p) ≤ 2147483647 from rgm (by omega)) ?_
                          refine And.intro (show -2147483648 ≤ (3 * (σ2 12 46)) ∧ (3 * (σ2 12 46)) ≤ 2147483647 from by omega) ?_
                          refine And.intro (show -2147483648 ≤ ((3 * (σ2 12 46)) + 1) ∧ ((3 * (σ2 12 46)) + 1) ≤ 2147483647 from by omega) ?_
                          refine And.intro (show 0 ≤ ((3 * (σ2 12 46)) + 1) ∧ ((3 * (σ2 12 46)) + 1) < 160 from by omega) ?_
                          refine And.intro (show Int.negSucc 2147483647 ≤ (σ1 12 14) ∧ (σ1 12 14) ≤ 2147483647 from rgm (by omega)) ?_
                          refine And.intro (show -2147483648 ≤ (3 * (σ2 12 46)) ∧ (3 * (σ2 12 46)) ≤ 2147483647 from by omega) ?_
                          refine And.intro (show -2147483648 ≤ ((3 * (σ2 12 46)) + 2) ∧ ((3 * (σ2 12 46)) + 2) ≤ 2147483647 from by omega) ?_
                          refine And.intro (show 0 ≤ ((3 * (σ2 12 46)) + 2) ∧ ((3 * (σ2 12 46)) + 2) < 160 from by omega) ?_
                          refine And.intro (show Int.negSucc 2147483647 ≤ (σ2 12 14) ∧ (σ2 12 14) ≤ 2147483647 from rgm (by omega)) ?_
                          refine And.intro (show -2147483648 ≤ ((σ2 12 46) + 1) ∧ ((σ2 12 46) + 1) ≤ 2147483647 from by omega) ?_
                          refine And.intro (show 0 ≤ ((σ2 12 46) + 1) ∧ ((σ2 12 46) + 1) ≤ 53 from by omega) ?_
                          refine fun (σ3 : vS) (f3 : rfr (vup (vup (vup (vup σ2 54 (3 * (σ2 12 46)) (qlfi x p)) 54 ((3 * (σ2 12 46)) + 1) (σ1 12 14)) 54 ((3 * (σ2 12 46)) + 2) (σ2 12 14)) 12 46 ((σ2 12 46) + 1)) σ3) (t3 : rtk (rtx (vup (vup (vup (vup σ2 54 (3 * (σ2 12 46)) (qlfi x p)) 54 ((3 * (σ2 12 46)) + 1) (σ1 12 14)) 54 ((3 * (σ2 12 46)) + 2) (σ2 12 14)) 12 46 ((σ2 12 46) + 1))) ((vup (vup (vup (vup σ2 54 (3 * (σ2 12 46)) (qlfi x p)) 54 ((3 * (σ2 12 46)) + 1) (σ1 12 14)) 54 ((3 * (σ2 12 46)) + 2) (σ2 12 14)) 12 46 ((σ2 12 46) + 1)) 12 3) ((vup (vup (vup (vup σ2 54 (3 * (σ2 12 46)) (qlfi x p)) 54 ((3 * (σ2 12 46)) + 1) (σ1 12 14)) 54 ((3 * (σ2 12 46)) + 2) (σ2 12 14)) 12 46 ((σ2 12 46) + 1)) 12 5) (tE (fun q => tbk (rtx (vup (vup (vup (vup σ2 54 (3 * (σ2 12 46)) (qlfi x p)) 54 ((3 * (σ2 12 46)) + 1) (σ1 12 14)) 54 ((3 * (σ2 12 46)) + 2) (σ2 12 14)) 12 46 ((σ2 12 46) + 1)) q)) ((vup (vup (vup (vup σ2 54 (3 * (σ2 12 46)) (qlfi x p)) 54 ((3 * (σ2 12 46)) + 1) (σ1 12 14)) 54 ((3 * (σ2 12 46)) + 2) (σ2 12 14)) 12 46 ((σ2 12 46) + 1)) 12 3) ((vup (vup (vup (vup σ2 54 (3 * (σ2 12 46)) (qlfi x p)) 54 ((3 * (σ2 12 46)) + 1) (σ1 12 14)) 54 ((3 * (σ2 12 46)) + 2) (σ2 12 14)) 12 46 ((σ2 12 46) + 1)) 12 4)) σ3) => ?_
                          have T3 : rT x (qnx x.1 x.2.1 (qnx x.1 x.2.1 (qnx x.1 x.2.1 p))) σ3 := rT_next (rT_u (rT_t (rT_t (rT_t T2 (by decide)) (by decide)) (by decide)) (by decide)) (by have := T2.2.1.1; omega) hl0 f3 t3
                          have k46_3 : σ3 12 46 = (σ2 12 46) + 1 := f3.2 46 (by decide) (by decide) (by decide) (by decide) (by decide) (by decide)
                          have k47_3 : σ3 12 47 = σ2 12 47 := f3.2 47 (by decide) (by decide) (by decide) (by decide) (by decide) (by decide)
                          have k48_3 : σ3 12 48 = σ2 12 48 := f3.2 48 (by decide) (by decide) (by decide) (by decide) (by decide) (by decide)
                          have k49_3 : σ3 12 49 = σ2 12 49 := f3.2 49 (by decide) (by decide) (by decide) (by decide) (by decide) (by decide)
                          have k50_3 : σ3 12 50 = σ2 12 50 := f3.2 50 (by decide) (by decide) (by decide) (by decide) (by decide) (by decide)
                          refine And.intro (show 0 ≤ 1 ∧ 1 ≤ 1 from by omega) ?_
                          have eP : (qop x (σ0 55) (σ0 52 0) (σ0 52 1) d b L o p) = (0, ((qnx x.1 x.2.1 (qnx x.1 x.2.1 (qnx x.1 x.2.1 p))), true, d, b, L, o + 1)) := (qop_s (by omega) (by omega)).trans ((if_pos ((qsg3_iff T1).mpr (by omega))).trans (if_pos (by rw [← T2.2.1.1]; omega)))
                          rw [eP] at h1
                          refine h1 rfl u _ (rQ_l (k := qlfi x p) hQ (by omega) (by omega) (fun t a c => (f3.1 t a).trans ((vup_fr a).trans ((vup_fr c).trans ((vup_fr c).trans ((vup_fr c).trans ((f2.1 t a).trans ((vup_fr a).trans (s1.1 t a)))))))) ?_ ?_ ?_ ?_ ?_ (fun j j0 j1 => (congrFun (f3.1 54 (by decide)) j).trans ((congrFun (vup_fr (by decide)) j).trans ((vup_ne 54 j (fun q => absurd (show j = (3 * (σ2 12 46)) + 2 from q.2) (by omega))).trans ((vup_ne 54 j (fun q => absurd (show j = (3 * (σ2 12 46)) + 1 from q.2) (by omega))).trans ((vup_ne 54 j (fun q => absurd (show j = 3 * (σ2 12 46) from q.2) (by omega))).trans ((congrFun (f2.1 54 (by decide)) j).trans ((congrFun (vup_fr (by decide)) j).trans (congrFun (s1.1 54 (by decide)) j)))))))) ?_ T3)
                          · show σ3 12 46 = σ 12 46 + 1
                            omega
                          · show σ3 12 47 = o + 1
                            omega
                          · show σ3 12 48 = σ 12 48
                            omega
                          · show σ3 12 49 = σ 12 49
                            omega
                          · show σ3 12 50 = 1
                            omega
                          · rw [show (3 * σ 12 46) = 3 * (σ2 12 46) by omega]
                            exact (congrFun (f3.1 54 (by decide)) (3 * (σ2 12 46))).trans ((congrFun (vup_fr (by decide)) (3 * (σ2 12 46))).trans ((vup_ne 54 (3 * (σ2 12 46)) (fun q => absurd (show (3 * (σ2 12 46)) = (3 * (σ2 12 46)) + 2 from q.2) (by omega))).trans ((vup_ne 54 (3 * (σ2 12 46)) (fun q => absurd (show (3 * (σ2 12 46)) = (3 * (σ2 12 46)) + 1 from q.2) (by omega))).trans (vup_eq))))
                        · refine And.intro (by omega) ?_
                          refine And.intro (show 0 ≤ 0 ∧ 0 ≤ 1 from by omega) ?_
                          have eP : (qop x (σ0 55) (σ0 52 0) (σ0 52 1) d b L o p) = (1, ((qnx x.1 x.2.1 (qnx x.1 x.2.1 p)), true, d, b, L, o + 1)) := (qop_s (by omega) (by omega)).trans ((if_pos ((qsg3_iff T1).mpr (by omega))).trans (if_neg (by rw [← T2.2.1.1]; omega)))
                          rw [eP] at h0
                          exact h0 (by show ¬ ((1:Int) = 0); decide) _ (rFl_bad T2) ((vup_fr (by decide)).trans ((vup_fr (by decide)).trans ((f2.1 55 (by decide)).trans ((vup_fr (by decide)).trans ((s1.1 55 (by decide)).trans hQ.2.2.2.2.1))))) ((vup_fr (by decide)).trans ((vup_fr (by decide)).trans ((f2.1 52 (by decide)).trans ((vup_fr (by decide)).trans ((s1.1 52 (by decide)).trans hQ.2.2.2.2.2)))))
                      · refine And.intro (by omega) ?_
                        refine And.intro (show 0 ≤ 0 ∧ 0 ≤ 1 from by omega) ?_
                        have eP : (qop x (σ0 55) (σ0 52 0) (σ0 52 1) d b L o p) = (1, ((qnx x.1 x.2.1 p), true, d, b, L, o + 1)) := (qop_s (by omega) (by omega)).trans (if_neg (fun q => by have := (qsg3_iff T1).mp q; omega))
                        rw [eP] at h0
                        exact h0 (by show ¬ ((1:Int) = 0); decide) _ (rFl_bad (rT_u T1 (by decide))) ((vup_fr (by decide)).trans ((vup_fr (by decide)).trans ((vup_fr (by decide)).trans ((s1.1 55 (by decide)).trans hQ.2.2.2.2.1)))) ((vup_fr (by decide)).trans ((vup_fr (by decide)).trans ((vup_fr (by decide)).trans ((s1.1 52 (by decide)).trans hQ.2.2.2.2.2))))
                · refine fun z (t36 : (z = 1 ∧ rnm (vup σ1 12 50 1)) ∨ (z = 0 ∧ ¬ rnm (vup σ1 12 50 1))) => ?_
                  rcases t36 with ⟨rfl, t36⟩ | ⟨rfl, t36⟩
                  · rw [rnm_q (rT_u T1 (by decide))] at t36
                    refine And.intro (fun _ => ?_) (fun (q : 1 = 0) => absurd q (by decide))
                    refine And.intro (fun (c37 : ¬ (qlfi x p) = 2) => ?_) (fun (c38 : (qlfi x p) = 2) => ?_)
                    · refine And.intro (show 0 ≤ 0 ∧ 0 < 402 from by omega) ?_
                      have mr39 : σ1 52 0 = σ0 52 0 := by have := congrFun ((s1.1 52 (by decide)).trans hQ.2.2.2.2.2) 0; exact this
                      refine And.intro (show ((0 : Int) ≤ 0 ∧ 0 ≤ σ1 52 0) ∧ 0 + σ1 52 0 ≤ 48 from by omega) (fun r39 (t40 : rfd ((vup σ1 12 50 1) 55) 0 (σ1 52 0) ((vup σ1 12 50 1) 12 17) r39) => ?_)
                      have br39 : -1 ≤ r39 ∧ (r39 < σ1 52 0 ∨ r39 = -1) := rfd_b t40 (by omega)
                      have qr39 : qofn x (σ0 55) (σ0 52 0) (σ0 52 1) (qbeg x p) (qnx x.1 x.2.1 p) = if 0 ≤ r39 then r39 else -3 := by
                        have e17 : (vup σ1 12 50 1) 12 17 = qwd x.1 x.2.1 (qnx x.1 x.2.1 p) := T1.2.1.2.2.2.2 (qnmp_k t36)
                        have e55 : (vup σ1 12 50 1) 55 = σ0 55 := (vup_fr (by decide)).trans ((s1.1 55 (by decide)).trans hQ.2.2.2.2.1)
                        rw [e17, e55, mr39] at t40
                        have eq := qfd_of (by omega) t40
                        have hb2 : ¬ qbeg x p = 2 := by omega
                        unfold qofn
                        rw [if_neg hb2, if_neg hb2, qlf_eq, if_pos t36, ← eq]
                      refine And.intro (fun (c41 : 0 ≤ r39) => ?_) (fun (c42 : r39 < 0) => ?_)
                      · refine And.intro (show -2147483648 ≤ (3 * (σ1 12 46)) ∧ (3 * (σ1 12 46)) ≤ 2147483647 from by omega) ?_
                        refine And.intro (show 0 ≤ (3 * (σ1 12 46)) ∧ (3 * (σ1 12 46)) < 160 from by omega) ?_
                        refine And.intro (show Int.negSucc 2147483647 ≤ (qlfi x p) ∧ (qlfi x p) ≤ 2147483647 from rgm (by omega)) ?_
                        refine And.intro (show -2147483648 ≤ (3 * (σ1 12 46)) ∧ (3 * (σ1 12 46)) ≤ 2147483647 from by omega) ?_
                        refine And.intro (show -2147483648 ≤ ((3 * (σ1 12 46)) + 1) ∧ ((3 * (σ1 12 46)) + 1) ≤ 2147483647 from by omega) ?_
                        refine And.intro (show 0 ≤ ((3 * (σ1 12 46)) + 1) ∧ ((3 * (σ1 12 46)) + 1) < 160 from by omega) ?_
                        refine And.intro (show Int.negSucc 2147483647 ≤ 0 ∧ 0 ≤ 2147483647 from rgm (by omega)) ?_
                        refine And.intro (show -2147483648 ≤ (3 * (σ1 12 46)) ∧ (3 * (σ1 12 46)) ≤ 2147483647 from by omega) ?_
                        refine And.intro (show -2147483648 ≤ ((3 * (σ1 12 46)) + 2) ∧ ((3 * (σ1 12 46)) + 2) ≤ 2147483647 from by omega) ?_
                        refine And.intro (show 0 ≤ ((3 * (σ1 12 46)) + 2) ∧ ((3 * (σ1 12 46)) + 2) < 160 from by omega) ?_
                        refine And.intro (show Int.negSucc 2147483647 ≤ r39 ∧ r39 ≤ 2147483647 from rgm (by omega)) ?_
                        refine And.intro (show -2147483648 ≤ ((σ1 12 46) + 1) ∧ ((σ1 12 46) + 1) ≤ 2147483647 from by omega) ?_
                        refine And.intro (show 0 ≤ ((σ1 12 46) + 1) ∧ ((σ1 12 46) + 1) ≤ 53 from by omega) ?_
                        refine fun (σ2 : vS) (f2 : rfr (vup (vup (vup (vup (vup σ1 12 50 1) 54 (3 * (σ1 12 46)) (qlfi x p)) 54 ((3 * (σ1 12 46)) + 1) 0) 54 ((3 * (σ1 12 46)) + 2) r39) 12 46 ((σ1 12 46) + 1)) σ2) (t2 : rtk (rtx (vup (vup (vup (vup (vup σ1 12 50 1) 54 (3 * (σ1 12 46)) (qlfi x p)) 54 ((3 * (σ1 12 46)) + 1) 0) 54 ((3 * (σ1 12 46)) + 2) r39) 12 46 ((σ1 12 46) + 1))) ((vup (vup (vup (vup (vup σ1 12 50 1) 54 (3 * (σ1 12 46)) (qlfi x p)) 54 ((3 * (σ1 12 46)) + 1) 0) 54 ((3 * (σ1 12 46)) + 2) r39) 12 46 ((σ1 12 46) + 1)) 12 3) ((vup (vup (vup (vup (vup σ1 12 50 1) 54 (3 * (σ1 12 46)) (qlfi x p)) 54 ((3 * (σ1 12 46)) + 1) 0) 54 ((3 * (σ1 12 46)) + 2) r39) 12 46 ((σ1 12 46) + 1)) 12 5) (tE (fun q => tbk (rtx (vup (vup (vup (vup (vup σ1 12 50 1) 54 (3 * (σ1 12 46)) (qlfi x p)) 54 ((3 * (σ1 12 46)) + 1) 0) 54 ((3 * (σ1 12 46)) + 2) r39) 12 46 ((σ1 12 46) + 1)) q)) ((vup (vup (vup (vup (vup σ1 12 50 1) 54 (3 * (σ1 12 46)) (qlfi x p)) 54 ((3 * (σ1 12 46)) + 1) 0) 54 ((3 * (σ1 12 46)) + 2) r39) 12 46 ((σ1 12 46) + 1)) 12 3) ((vup (vup (vup (vup (vup σ1 12 50 1) 54 (3 * (σ1 12 46)) (qlfi x p)) 54 ((3 * (σ1 12 46)) + 1) 0) 54 ((3 * (σ1 12 46)) + 2) r39) 12 46 ((σ1 12 46) + 1)) 12 4)) σ2) => ?_
                        have T2 : rT x (qnx x.1 x.2.1 (qnx x.1 x.2.1 p)) σ2 := rT_next (rT_u (rT_t (rT_t (rT_t (rT_u T1 (by decide)) (by decide)) (by decide)) (by decide)) (by decide)) (by have := T1.2.1.1; first | omega | (have := qnmp_k (by assumption : qnmp x (qnx x.1 x.2.1 p) = true); omega)) hl0 f2 t2
                        have k46_2 : σ2 12 46 = (σ1 12 46) + 1 := f2.2 46 (by decide) (by decide) (by decide) (by decide) (by decide) (by decide)
                        have k47_2 : σ2 12 47 = σ1 12 47 := f2.2 47 (by decide) (by decide) (by decide) (by decide) (by decide) (by decide)
                        have k48_2 : σ2 12 48 = σ1 12 48 := f2.2 48 (by decide) (by decide) (by decide) (by decide) (by decide) (by decide)
                        have k49_2 : σ2 12 49 = σ1 12 49 := f2.2 49 (by decide) (by decide) (by decide) (by decide) (by decide) (by decide)
                        have k50_2 : σ2 12 50 = 1 := f2.2 50 (by decide) (by decide) (by decide) (by decide) (by decide) (by decide)
                        have v2 : σ2 12 11 = 2 → (0 ≤ σ2 12 14 ∧ σ2 12 14 ≤ 99) := fun q => by have e := T2.2.1.1.symm.trans q; have b := qvl_d e; rw [← T2.2.1.2.2.2.1 (Or.inl e)] at b; exact b
                        refine And.intro (show 0 ≤ 1 ∧ 1 ≤ 1 from by omega) ?_
                        have eP : (qop x (σ0 55) (σ0 52 0) (σ0 52 1) d b L o p) = (0, ((qnx x.1 x.2.1 (qnx x.1 x.2.1 p)), true, d, b, L, o + 1)) := (qop_m (by omega) (by omega)).trans (if_neg (by rw [qr39, if_pos (by omega)]; omega))
                        rw [eP] at h1
                        refine h1 rfl u _ (rQ_l (k := qlfi x p) hQ (by omega) (by omega) (fun t a c => (f2.1 t a).trans ((vup_fr a).trans ((vup_fr c).trans ((vup_fr c).trans ((vup_fr c).trans ((vup_fr a).trans (s1.1 t a))))))) ?_ ?_ ?_ ?_ ?_ (fun j j0 j1 => (congrFun (f2.1 54 (by decide)) j).trans ((congrFun (vup_fr (by decide)) j).trans ((vup_ne 54 j (fun q => absurd (show j = (3 * (σ1 12 46)) + 2 from q.2) (by omega))).trans ((vup_ne 54 j (fun q => absurd (show j = (3 * (σ1 12 46)) + 1 from q.2) (by omega))).trans ((vup_ne 54 j (fun q => absurd (show j = 3 * (σ1 12 46) from q.2) (by omega))).trans ((congrFun (vup_fr (by decide)) j).trans (congrFun (s1.1 54 (by decide)) j))))))) ?_ T2)
                        · show σ2 12 46 = σ 12 46 + 1
                          omega
                        · show σ2 12 47 = o + 1
                          omega
                        · show σ2 12 48 = σ 12 48
                          omega
                        · show σ2 12 49 = σ 12 49
                          omega
                        · show σ2 12 50 = 1
                          omega
                        · rw [show (3 * σ 12 46) = 3 * (σ1 12 46) by omega]
                          exact (congrFun (f2.1 54 (by decide)) (3 * (σ1 12 46))).trans ((congrFun (vup_fr (by decide)) (3 * (σ1 12 46))).trans ((vup_ne 54 (3 * (σ1 12 46)) (fun q => absurd (show (3 * (σ1 12 46)) = (3 * (σ1 12 46)) + 2 from q.2) (by omega))).trans ((vup_ne 54 (3 * (σ1 12 46)) (fun q => absurd (show (3 * (σ1 12 46)) = (3 * (σ1 12 46)) + 1 from q.2) (by omega))).trans (vup_eq))))
                      · refine And.intro (by omega) ?_
                        refine And.intro (show 0 ≤ 0 ∧ 0 ≤ 1 from by omega) ?_
                        have eP : (qop x (σ0 55) (σ0 52 0) (σ0 52 1) d b L o p) = (3, ((qnx x.1 x.2.1 p), true, d, b, L, o + 1)) := (qop_m (by omega) (by omega)).trans ((if_pos (by rw [qr39, if_neg (by omega)]; decide)).trans (by rw [qr39, if_neg (by omega)]; rfl))
                        rw [eP] at h0
                        exact h0 (by show ¬ ((3:Int) = 0); decide) _ (rFl_bad (rT_u T1 (by decide))) ((vup_fr (by decide)).trans ((vup_fr (by decide)).trans ((vup_fr (by decide)).trans ((s1.1 55 (by decide)).trans hQ.2.2.2.2.1)))) ((vup_fr (by decide)).trans ((vup_fr (by decide)).trans ((vup_fr (by decide)).trans ((s1.1 52 (by decide)).trans hQ.2.2.2.2.2))))
                    · refine And.intro (show 0 ≤ 1 ∧ 1 < 402 from by omega) ?_
                      have mr43 : σ1 52 1 = σ0 52 1 := by have := congrFun ((s1.1 52 (by decide)).trans hQ.2.2.2.2.2) 1; exact this
                      refine And.intro (show ((0 : Int) ≤ 6 ∧ 0 ≤ σ1 52 1) ∧ 6 + σ1 52 1 ≤ 48 from by omega) (fun r43 (t44 : rfd ((vup σ1 12 50 1) 55) 6 (σ1 52 1) ((vup σ1 12 50 1) 12 17) r43) => ?_)
                      have br43 : -1 ≤ r43 ∧ (r43 < σ1 52 1 ∨ r43 = -1) := rfd_b t44 (by omega)
                      have qr43 : qofn x (σ0 55) (σ0 52 0) (σ0 52 1) (qbeg x p) (qnx x.1 x.2.1 p) = if 0 ≤ r43 then r43 else -3 := by
                        have e17 : (vup σ1 12 50 1) 12 17 = qwd x.1 x.2.1 (qnx x.1 x.2.1 p) := T1.2.1.2.2.2.2 (qnmp_k t36)
                        have e55 : (vup σ1 12 50 1) 55 = σ0 55 := (vup_fr (by decide)).trans ((s1.1 55 (by decide)).trans hQ.2.2.2.2.1)
                        rw [e17, e55, mr43] at t44
                        have eq := qfd_of (by omega) t44
                        have hb2 : qbeg x p = 2 := by omega
                        unfold qofn
                        rw [if_pos hb2, if_pos hb2, qlf_eq, if_pos t36, ← eq]
                      refine And.intro (fun (c45 : 0 ≤ r43) => ?_) (fun (c46 : r43 < 0) => ?_)
                      · refine And.intro (show -2147483648 ≤ (3 * (σ1 12 46)) ∧ (3 * (σ1 12 46)) ≤ 2147483647 from by omega) ?_
                        refine And.intro (show 0 ≤ (3 * (σ1 12 46)) ∧ (3 * (σ1 12 46)) < 160 from by omega) ?_
                        refine And.intro (show Int.negSucc 2147483647 ≤ (qlfi x p) ∧ (qlfi x p) ≤ 2147483647 from rgm (by omega)) ?_
                        refine And.intro (show -2147483648 ≤ (3 * (σ1 12 46)) ∧ (3 * (σ1 12 46)) ≤ 2147483647 from by omega) ?_
                        refine And.intro (show -2147483648 ≤ ((3 * (σ1 12 46)) + 1) ∧ ((3 * (σ1 12 46)) + 1) ≤ 2147483647 from by omega) ?_
                        refine And.intro (show 0 ≤ ((3 * (σ1 12 46)) + 1) ∧ ((3 * (σ1 12 46)) + 1) < 160 from by omega) ?_
                        refine And.intro (show Int.negSucc 2147483647 ≤ 0 ∧ 0 ≤ 2147483647 from rgm (by omega)) ?_
                        refine And.intro (show -2147483648 ≤ (3 * (σ1 12 46)) ∧ (3 * (σ1 12 46)) ≤ 2147483647 from by omega) ?_
                        refine And.intro (show -2147483648 ≤ ((3 * (σ1 12 46)) + 2) ∧ ((3 * (σ1 12 46)) + 2) ≤ 2147483647 from by omega) ?_
                        refine And.intro (show 0 ≤ ((3 * (σ1 12 46)) + 2) ∧ ((3 * (σ1 12 46)) + 2) < 160 from by omega) ?_
                        refine And.intro (show Int.negSucc 2147483647 ≤ r43 ∧ r43 ≤ 2147483647 from rgm (by omega)) ?_
                        refine And.intro (show -2147483648 ≤ ((σ1 12 46) + 1) ∧ ((σ1 12 46) + 1) ≤ 2147483647 from by omega) ?_
                        refine And.intro (show 0 ≤ ((σ1 12 46) + 1) ∧ ((σ1 12 46) + 1) ≤ 53 from by omega) ?_
                        refine fun (σ2 : vS) (f2 : rfr (vup (vup (vup (vup (vup σ1 12 50 1) 54 (3 * (σ1 12 46)) (qlfi x p)) 54 ((3 * (σ1 12 46)) + 1) 0) 54 ((3 * (σ1 12 46)) + 2) r43) 12 46 ((σ1 12 46) + 1)) σ2) (t2 : rtk (rtx (vup (vup (vup (vup (vup σ1 12 50 1) 54 (3 * (σ1 12 46)) (qlfi x p)) 54 ((3 * (σ1 12 46)) + 1) 0) 54 ((3 * (σ1 12 46)) + 2) r43) 12 46 ((σ1 12 46) + 1))) ((vup (vup (vup (vup (vup σ1 12 50 1) 54 (3 * (σ1 12 46)) (qlfi x p)) 54 ((3 * (σ1 12 46)) + 1) 0) 54 ((3 * (σ1 12 46)) + 2) r43) 12 46 ((σ1 12 46) + 1)) 12 3) ((vup (vup (vup (vup (vup σ1 12 50 1) 54 (3 * (σ1 12 46)) (qlfi x p)) 54 ((3 * (σ1 12 46)) + 1) 0) 54 ((3 * (σ1 12 46)) + 2) r43) 12 46 ((σ1 12 46) + 1)) 12 5) (tE (fun q => tbk (rtx (vup (vup (vup (vup (vup σ1 12 50 1) 54 (3 * (σ1 12 46)) (qlfi x p)) 54 ((3 * (σ1 12 46)) + 1) 0) 54 ((3 * (σ1 12 46)) + 2) r43) 12 46 ((σ1 12 46) + 1)) q)) ((vup (vup (vup (vup (vup σ1 12 50 1) 54 (3 * (σ1 12 46)) (qlfi x p)) 54 ((3 * (σ1 12 46)) + 1) 0) 54 ((3 * (σ1 12 46)) + 2) r43) 12 46 ((σ1 12 46) + 1)) 12 3) ((vup (vup (vup (vup (vup σ1 12 50 1) 54 (3 * (σ1 12 46)) (qlfi x p)) 54 ((3 * (σ1 12 46)) + 1) 0) 54 ((3 * (σ1 12 46)) + 2) r43) 12 46 ((σ1 12 46) + 1)) 12 4)) σ2) => ?_
                        have T2 : rT x (qnx x.1 x.2.1 (qnx x.1 x.2.1 p)) σ2 := rT_next (rT_u (rT_t (rT_t (rT_t (rT_u T1 (by decide)) (by decide)) (by decide)) (by decide)) (by decide)) (by have := T1.2.1.1; first | omega | (have := qnmp_k (by assumption : qnmp x (qnx x.1 x.2.1 p) = true); omega)) hl0 f2 t2
                        have k46_2 : σ2 12 46 = (σ1 12 46) + 1 := f2.2 46 (by decide) (by decide) (by decide) (by decide) (by decide) (by decide)
                        have k47_2 : σ2 12 47 = σ1 12 47 := f2.2 47 (by decide) (by decide) (by decide) (by decide) (by decide) (by decide)
                        have k48_2 : σ2 12 48 = σ1 12 48 := f2.2 48 (by decide) (by decide) (by decide) (by decide) (by decide) (by decide)
                        have k49_2 : σ2 12 49 = σ1 12 49 := f2.2 49 (by decide) (by decide) (by decide) (by decide) (by decide) (by decide)
                        have k50_2 : σ2 12 50 = 1 := f2.2 50 (by decide) (by decide) (by decide) (by decide) (by decide) (by decide)
                        have v2 : σ2 12 11 = 2 → (0 ≤ σ2 12 14 ∧ σ2 12 14 ≤ 99) := fun q => by have e := T2.2.1.1.symm.trans q; have b := qvl_d e; rw [← T2.2.1.2.2.2.1 (Or.inl e)] at b; exact b
                        refine And.intro (show 0 ≤ 1 ∧ 1 ≤ 1 from by omega) ?_
                        have eP : (qop x (σ0 55) (σ0 52 0) (σ0 52 1) d b L o p) = (0, ((qnx x.1 x.2.1 (qnx x.1 x.2.1 p)), true, d, b, L, o + 1)) := (qop_m (by omega) (by omega)).trans (if_neg (by rw [qr43, if_pos (by omega)]; omega))
                        rw [eP] at h1
                        refine h1 rfl u _ (rQ_l (k := qlfi x p) hQ (by omega) (by omega) (fun t a c => (f2.1 t a).trans ((vup_fr a).trans ((vup_fr c).trans ((vup_fr c).trans ((vup_fr c).trans ((vup_fr a).trans (s1.1 t a))))))) ?_ ?_ ?_ ?_ ?_ (fun j j0 j1 => (congrFun (f2.1 54 (by decide)) j).trans ((congrFun (vup_fr (by decide)) j).trans ((vup_ne 54 j (fun q => absurd (show j = (3 * (σ1 12 46)) + 2 from q.2) (by omega))).trans ((vup_ne 54 j (fun q => absurd (show j = (3 * (σ1 12 46)) + 1 from q.2) (by omega))).trans ((vup_ne 54 j (fun q => absurd (show j = 3 * (σ1 12 46) from q.2) (by omega))).trans ((congrFun (vup_fr (by decide)) j).trans (congrFun (s1.1 54 (by decide)) j))))))) ?_ T2)
                        · show σ2 12 46 = σ 12 46 + 1
                          omega
                        · show σ2 12 47 = o + 1
                          omega
                        · show σ2 12 48 = σ 12 48
                          omega
                        · show σ2 12 49 = σ 12 49
                          omega
                        · show σ2 12 50 = 1
                          omega
                        · rw [show (3 * σ 12 46) = 3 * (σ1 12 46) by omega]
                          exact (congrFun (f2.1 54 (by decide)) (3 * (σ1 12 46))).trans ((congrFun (vup_fr (by decide)) (3 * (σ1 12 46))).trans ((vup_ne 54 (3 * (σ1 12 46)) (fun q => absurd (show (3 * (σ1 12 46)) = (3 * (σ1 12 46)) + 2 from q.2) (by omega))).trans ((vup_ne 54 (3 * (σ1 12 46)) (fun q => absurd (show (3 * (σ1 12 46)) = (3 * (σ1 12 46)) + 1 from q.2) (by omega))).trans (vup_eq))))
                      · refine And.intro (by omega) ?_
                        refine And.intro (show 0 ≤ 0 ∧ 0 ≤ 1 from by omega) ?_
                        have eP : (qop x (σ0 55) (σ0 52 0) (σ0 52 1) d b L o p) = (3, ((qnx x.1 x.2.1 p), true, d, b, L, o + 1)) := (qop_m (by omega) (by omega)).trans ((if_pos (by rw [qr43, if_neg (by omega)]; decide)).trans (by rw [qr43, if_neg (by omega)]; rfl))
                        rw [eP] at h0
                        exact h0 (by show ¬ ((3:Int) = 0); decide) _ (rFl_bad (rT_u T1 (by decide))) ((vup_fr (by decide)).trans ((vup_fr (by decide)).trans ((vup_fr (by decide)).trans ((s1.1 55 (by decide)).trans hQ.2.2.2.2.1)))) ((vup_fr (by decide)).trans ((vup_fr (by decide)).trans ((vup_fr (by decide)).trans ((s1.1 52 (by decide)).trans hQ.2.2.2.2.2))))
                  · rw [rnm_q (rT_u T1 (by decide))] at t36
                    refine And.intro (fun (q : ¬ 0 = 0) => absurd q (by decide)) (fun _ => ?_)
                    refine And.intro (by omega) ?_
                    refine And.intro (show 0 ≤ 0 ∧ 0 ≤ 1 from by omega) ?_
                    have eP : (qop x (σ0 55) (σ0 52 0) (σ0 52 1) d b L o p) = (1, ((qnx x.1 x.2.1 p), true, d, b, L, o + 1)) := (qop_m (by omega) (by omega)).trans (by rw [qofn_n t36]; rfl)
                    rw [eP] at h0
                    exact h0 (by show ¬ ((1:Int) = 0); decide) _ (rFl_bad (rT_u T1 (by decide))) ((vup_fr (by decide)).trans ((vup_fr (by decide)).trans ((vup_fr (by decide)).trans ((s1.1 55 (by decide)).trans hQ.2.2.2.2.1)))) ((vup_fr (by decide)).trans ((vup_fr (by decide)).trans ((vup_fr (by decide)).trans ((s1.1 52 (by decide)).trans hQ.2.2.2.2.2))))
              · refine And.intro (show -2147483648 ≤ (3 * (σ1 12 46)) ∧ (3 * (σ1 12 46)) ≤ 2147483647 from by omega) ?_
                refine And.intro (show 0 ≤ (3 * (σ1 12 46)) ∧ (3 * (σ1 12 46)) < 160 from by omega) ?_
                refine And.intro (show Int.negSucc 2147483647 ≤ (qlfi x p) ∧ (qlfi x p) ≤ 2147483647 from rgm (by omega)) ?_
                refine And.intro (show -2147483648 ≤ (3 * (σ1 12 46)) ∧ (3 * (σ1 12 46)) ≤ 2147483647 from by omega) ?_
                refine And.intro (show -2147483648 ≤ ((3 * (σ1 12 46)) + 1) ∧ ((3 * (σ1 12 46)) + 1) ≤ 2147483647 from by omega) ?_
                refine And.intro (show 0 ≤ ((3 * (σ1 12 46)) + 1) ∧ ((3 * (σ1 12 46)) + 1) < 160 from by omega) ?_
                refine And.intro (show Int.negSucc 2147483647 ≤ 0 ∧ 0 ≤ 2147483647 from rgm (by omega)) ?_
                refine And.intro (show -2147483648 ≤ (3 * (σ1 12 46)) ∧ (3 * (σ1 12 46)) ≤ 2147483647 from by omega) ?_
                refine And.intro (show -2147483648 ≤ ((3 * (σ1 12 46)) + 2) ∧ ((3 * (σ1 12 46)) + 2) ≤ 2147483647 from by omega) ?_
                refine And.intro (show 0 ≤ ((3 * (σ1 12 46)) + 2) ∧ ((3 * (σ1 12 46)) + 2) < 160 from by omega) ?_
                refine And.intro (show Int.negSucc 2147483647 ≤ 0 ∧ 0 ≤ 2147483647 from rgm (by omega)) ?_
                refine And.intro (show -2147483648 ≤ ((σ1 12 46) + 1) ∧ ((σ1 12 46) + 1) ≤ 2147483647 from by omega) ?_
                refine And.intro (show 0 ≤ ((σ1 12 46) + 1) ∧ ((σ1 12 46) + 1) ≤ 53 from by omega) ?_
                refine And.intro (show 0 ≤ 1 ∧ 1 ≤ 1 from by omega) ?_
                have eP : (qop x (σ0 55) (σ0 52 0) (σ0 52 1) d b L o p) = (0, ((qnx x.1 x.2.1 p), true, d, b, L, o + 1)) := qop_l (by omega) (by omega)
                rw [eP] at h1
                refine h1 rfl u _ (rQ_l (k := qlfi x p) hQ (by omega) (by omega) (fun t a c => (vup_fr a).trans ((vup_fr c).trans ((vup_fr c).trans ((vup_fr c).trans ((vup_fr a).trans (s1.1 t a)))))) ?_ ?_ ?_ ?_ ?_ (fun j j0 j1 => (congrFun (vup_fr (by decide)) j).trans ((vup_ne 54 j (fun q => absurd (show j = (3 * (σ1 12 46)) + 2 from q.2) (by omega))).trans ((vup_ne 54 j (fun q => absurd (show j = (3 * (σ1 12 46)) + 1 from q.2) (by omega))).trans ((vup_ne 54 j (fun q => absurd (show j = 3 * (σ1 12 46) from q.2) (by omega))).trans ((congrFun (vup_fr (by decide)) j).trans (congrFun (s1.1 54 (by decide)) j)))))) ?_ (rT_u (rT_t (rT_t (rT_t (rT_u T1 (by decide)) (by decide)) (by decide)) (by decide)) (by decide)))
                · show (σ1 12 46) + 1 = σ 12 46 + 1
                  omega
                · show σ1 12 47 = o + 1
                  omega
                · show σ1 12 48 = σ 12 48
                  omega
                · show σ1 12 49 = σ 12 49
                  omega
                · show 1 = 1
                  omega
                · rw [show (3 * σ 12 46) = 3 * (σ1 12 46) by omega]
                  exact (congrFun (vup_fr (by decide)) (3 * (σ1 12 46))).trans ((vup_ne 54 (3 * (σ1 12 46)) (fun q => absurd (show (3 * (σ1 12 46)) = (3 * (σ1 12 46)) + 2 from q.2) (by omega))).trans ((vup_ne 54 (3 * (σ1 12 46)) (fun q => absurd (show (3 * (σ1 12 46)) = (3 * (σ1 12 46)) + 1 from q.2) (by omega))).trans (vup_eq)))
            · refine And.intro (by omega) ?_
              refine And.intro (show 0 ≤ 0 ∧ 0 ≤ 1 from by omega) ?_
              have eP : (qop x (σ0 55) (σ0 52 0) (σ0 52 1) d b L o p) = (4, (p, false, d, b, L, o)) := qop_4 (by omega) (by omega)
              rw [eP] at h0
              exact h0 (by show ¬ ((4:Int) = 0); decide) _ (rFl_bad hT) ((vup_fr (by decide)).trans ((vup_fr (by decide)).trans hQ.2.2.2.2.1)) ((vup_fr (by decide)).trans ((vup_fr (by decide)).trans hQ.2.2.2.2.2))
        · refine And.intro (by omega) ?_
          refine And.intro (show 0 ≤ 0 ∧ 0 ≤ 1 from by omega) ?_
          have eP : (qop x (σ0 55) (σ0 52 0) (σ0 52 1) d b L o p) = (1, (p, false, d, b, L, o)) := qop_1 (by omega)
          rw [eP] at h0
          exact h0 (by show ¬ ((1:Int) = 0); decide) _ (rFl_bad hT) ((vup_fr (by decide)).trans ((vup_fr (by decide)).trans hQ.2.2.2.2.1)) ((vup_fr (by decide)).trans ((vup_fr (by decide)).trans hQ.2.2.2.2.2))
  · exact absurd h id
end ZV3
