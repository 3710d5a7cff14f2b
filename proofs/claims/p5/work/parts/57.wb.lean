/-! THE REFERENCE'S SENTENCE: nots, joins, leafOf, exactly. -/
noncomputable section
def us233 : vSpL := fun vs σ K => match vs with
  | [.inr (.inl 12)] => ∃ x p, rT x p σ ∧ K (some (.inl (qlfi x p))) σ
  | _ => False
def us243 : vSpL := fun vs σ K => match vs with
  | [.inr (.inl 12)] => ∃ (u : Int) (L : List Int) (d b : Int), (zIv σ u ∧ σ 12 50 = 1) ∧ (rst (σ 72) L (σ 12 48) d b ∧ σ 12 49 = d ∧ d ≤ 20) ∧ ∀ (u2 : Int) (σ2 : vS), u2 ≤ u → zIv σ2 u2 → zfd σ σ2 → rst (σ 72) L (σ2 12 48) b b → σ2 12 49 = b → K none σ2
  | _ => False
def us231 : vSpL := fun vs σ K => match vs with
  | [.inr (.inl 12), .inl x] => ∃ (u : Int) (L : List Int) (b : Int), (zIv σ u ∧ σ 12 50 = 1) ∧ (rst (σ 72) L (σ 12 48) b b ∧ σ 12 49 = b) ∧ ∀ σ2 : vS, zIv σ2 u → zfd σ σ2 → rst (σ 72) L (σ2 12 48) b b → σ2 12 49 = b → (x = 22 → σ2 12 48 ≤ 0 ∨ ¬ zj (σ2 72) (σ2 12 48 - 1)) → K none σ2
  | _ => False
end
theorem qisw_iff {x : qX} {p v : Int} {σ : vS} (hT : rT x p σ) : qisw x p v = true ↔ σ 12 11 = 1 ∧ σ 12 17 = v := by
  unfold qisw
  rw [Bool.and_eq_true, decide_eq_true_iff, decide_eq_true_iff, hT.2.1.1]
  exact ⟨fun q => ⟨q.1, (hT.2.1.2.2.2.2 q.1).trans q.2⟩, fun q => ⟨q.1, (hT.2.1.2.2.2.2 q.1).symm.trans q.2⟩⟩
theorem qisw_t {x : qX} {p v : Int} {σ : vS} (hT : rT x p σ) (h : σ 12 11 = 1 ∧ σ 12 17 = v) : qisw x p v = true := (qisw_iff hT).mpr h
theorem qisw_f {x : qX} {p v : Int} {σ : vS} (hT : rT x p σ) (h : ¬ (σ 12 11 = 1 ∧ σ 12 17 = v)) : qisw x p v = false := Bool.eq_false_iff.mpr fun q => h ((qisw_iff hT).mp q)
theorem qsn_iff {x : qX} {p c : Int} {σ : vS} (hT : rT x p σ) : qsn x p c = true ↔ σ 12 11 = 3 ∧ σ 12 14 = c := by
  unfold qsn
  rw [Bool.and_eq_true, decide_eq_true_iff, decide_eq_true_iff, hT.2.1.1]
  exact ⟨fun q => ⟨q.1, (hT.2.1.2.2.2.1 (Or.inr q.1)).trans q.2⟩, fun q => ⟨q.1, (hT.2.1.2.2.2.1 (Or.inr q.1)).symm.trans q.2⟩⟩
section ZV2
variable {E : zE} {w : va_W} {σ : vS} {K : vKL}
theorem uk_233 (X : zX gKX E) (B : zB E) : zOKL E gJ1 mdT w 233 us233 := by
  intro q hq vs σ K h
  cases (show gMT 233 = some (gm_233, 1) from rfl).symm.trans hq
  unfold us233 at h
  split at h
  · obtain ⟨x, p, hT, hK⟩ := h
    show zGL E gJ1 mdT w gm_233 0 [(0, .inr (.inl 12))] σ K
    refine zbdL (fun hb => zgoL X B (zS_consL (rk_230 X B) zS_nilL) [] [] (fun m => false) (by decide +kernel) ?_)
    refine fun z (t1 : (z = 1 ∧ σ 12 11 = 1 ∧ σ 12 17 = 422877228660) ∨ (z = 0 ∧ ¬ (σ 12 11 = 1 ∧ σ 12 17 = 422877228660))) => ?_
    rcases t1 with ⟨rfl, t1⟩ | ⟨rfl, t1⟩
    · refine And.intro (fun (q : 1 = 0) => absurd q (by decide)) (fun _ => ?_)
      have e : qlfi x p = 0 := if_pos (qisw_t hT (v := qrw 22) t1)
      rw [e] at hK
      exact hK
    · refine And.intro (fun _ => ?_) (fun (q : ¬ 0 = 0) => absurd q (by decide))
      refine fun z (t2 : (z = 1 ∧ σ 12 11 = 1 ∧ σ 12 17 = 1718773093) ∨ (z = 0 ∧ ¬ (σ 12 11 = 1 ∧ σ 12 17 = 1718773093))) => ?_
      rcases t2 with ⟨rfl, t2⟩ | ⟨rfl, t2⟩
      · refine And.intro (fun (q : 1 = 0) => absurd q (by decide)) (fun _ => ?_)
        have e : qlfi x p = 1 := (if_neg (by rw [qisw_f hT (v := qrw 22) t1]; exact Bool.false_ne_true)).trans (if_pos (qisw_t hT (v := qrw 23) t2))
        rw [e] at hK
        exact hK
      · refine And.intro (fun _ => ?_) (fun (q : ¬ 0 = 0) => absurd q (by decide))
        refine fun z (t3 : (z = 1 ∧ σ 12 11 = 1 ∧ σ 12 17 = 28518) ∨ (z = 0 ∧ ¬ (σ 12 11 = 1 ∧ σ 12 17 = 28518))) => ?_
        rcases t3 with ⟨rfl, t3⟩ | ⟨rfl, t3⟩
        · refine And.intro (fun (q : 1 = 0) => absurd q (by decide)) (fun _ => ?_)
          have e : qlfi x p = 2 := (if_neg (by rw [qisw_f hT (v := qrw 22) t1]; exact Bool.false_ne_true)).trans ((if_neg (by rw [qisw_f hT (v := qrw 23) t2]; exact Bool.false_ne_true)).trans (if_pos (qisw_t hT (v := qrw 24) t3)))
          rw [e] at hK
          exact hK
        · refine And.intro (fun _ => ?_) (fun (q : ¬ 0 = 0) => absurd q (by decide))
          refine fun z (t4 : (z = 1 ∧ σ 12 11 = 1 ∧ σ 12 17 = 26990) ∨ (z = 0 ∧ ¬ (σ 12 11 = 1 ∧ σ 12 17 = 26990))) => ?_
          rcases t4 with ⟨rfl, t4⟩ | ⟨rfl, t4⟩
          · refine And.intro (fun (q : 1 = 0) => absurd q (by decide)) (fun _ => ?_)
            have e : qlfi x p = 3 := (if_neg (by rw [qisw_f hT (v := qrw 22) t1]; exact Bool.false_ne_true)).trans ((if_neg (by rw [qisw_f hT (v := qrw 23) t2]; exact Bool.false_ne_true)).trans ((if_neg (by rw [qisw_f hT (v := qrw 24) t3]; exact Bool.false_ne_true)).trans (if_pos (qisw_t hT (v := qrw 25) t4))))
            rw [e] at hK
            exact hK
          · refine And.intro (fun _ => ?_) (fun (q : ¬ 0 = 0) => absurd q (by decide))
            refine fun z (t5 : (z = 1 ∧ σ 12 11 = 1 ∧ σ 12 17 = 123580963646565) ∨ (z = 0 ∧ ¬ (σ 12 11 = 1 ∧ σ 12 17 = 123580963646565))) => ?_
            rcases t5 with ⟨rfl, t5⟩ | ⟨rfl, t5⟩
            · refine And.intro (fun (q : 1 = 0) => absurd q (by decide)) (fun _ => ?_)
              have e : qlfi x p = 4 := (if_neg (by rw [qisw_f hT (v := qrw 22) t1]; exact Bool.false_ne_true)).trans ((if_neg (by rw [qisw_f hT (v := qrw 23) t2]; exact Bool.false_ne_true)).trans ((if_neg (by rw [qisw_f hT (v := qrw 24) t3]; exact Bool.false_ne_true)).trans ((if_neg (by rw [qisw_f hT (v := qrw 25) t4]; exact Bool.false_ne_true)).trans (if_pos (qisw_t hT (v := qrw 26) t5)))))
              rw [e] at hK
              exact hK
            · refine And.intro (fun _ => ?_) (fun (q : ¬ 0 = 0) => absurd q (by decide))
              refine fun z (t6 : (z = 1 ∧ σ 12 11 = 1 ∧ σ 12 17 = 431366304371) ∨ (z = 0 ∧ ¬ (σ 12 11 = 1 ∧ σ 12 17 = 431366304371))) => ?_
              rcases t6 with ⟨rfl, t6⟩ | ⟨rfl, t6⟩
              · refine And.intro (fun (q : 1 = 0) => absurd q (by decide)) (fun _ => ?_)
                have e : qlfi x p = 5 := (if_neg (by rw [qisw_f hT (v := qrw 22) t1]; exact Bool.false_ne_true)).trans ((if_neg (by rw [qisw_f hT (v := qrw 23) t2]; exact Bool.false_ne_true)).trans ((if_neg (by rw [qisw_f hT (v := qrw 24) t3]; exact Bool.false_ne_true)).trans ((if_neg (by rw [qisw_f hT (v := qrw 25) t4]; exact Bool.false_ne_true)).trans ((if_neg (by rw [qisw_f hT (v := qrw 26) t5]; exact Bool.false_ne_true)).trans (if_pos (qisw_t hT (v := qrw 27) t6))))))
                rw [e] at hK
                exact hK
              · refine And.intro (fun _ => ?_) (fun (q : ¬ 0 = 0) => absurd q (by decide))
                refine fun z (t7 : (z = 1 ∧ σ 12 11 = 1 ∧ σ 12 17 = 512970880104) ∨ (z = 0 ∧ ¬ (σ 12 11 = 1 ∧ σ 12 17 = 512970880104))) => ?_
                rcases t7 with ⟨rfl, t7⟩ | ⟨rfl, t7⟩
                · refine And.intro (fun (q : 1 = 0) => absurd q (by decide)) (fun _ => ?_)
                  have e : qlfi x p = 6 := (if_neg (by rw [qisw_f hT (v := qrw 22) t1]; exact Bool.false_ne_true)).trans ((if_neg (by rw [qisw_f hT (v := qrw 23) t2]; exact Bool.false_ne_true)).trans ((if_neg (by rw [qisw_f hT (v := qrw 24) t3]; exact Bool.false_ne_true)).trans ((if_neg (by rw [qisw_f hT (v := qrw 25) t4]; exact Bool.false_ne_true)).trans ((if_neg (by rw [qisw_f hT (v := qrw 26) t5]; exact Bool.false_ne_true)).trans ((if_neg (by rw [qisw_f hT (v := qrw 27) t6]; exact Bool.false_ne_true)).trans (if_pos (qisw_t hT (v := qrw 28) t7)))))))
                  rw [e] at hK
                  exact hK
                · refine And.intro (fun _ => ?_) (fun (q : ¬ 0 = 0) => absurd q (by decide))
                  refine fun z (t8 : (z = 1 ∧ σ 12 11 = 1 ∧ σ 12 17 = 121450625394034) ∨ (z = 0 ∧ ¬ (σ 12 11 = 1 ∧ σ 12 17 = 121450625394034))) => ?_
                  rcases t8 with ⟨rfl, t8⟩ | ⟨rfl, t8⟩
                  · refine And.intro (fun (q : 1 = 0) => absurd q (by decide)) (fun _ => ?_)
                    have e : qlfi x p = 7 := (if_neg (by rw [qisw_f hT (v := qrw 22) t1]; exact Bool.false_ne_true)).trans ((if_neg (by rw [qisw_f hT (v := qrw 23) t2]; exact Bool.false_ne_true)).trans ((if_neg (by rw [qisw_f hT (v := qrw 24) t3]; exact Bool.false_ne_true)).trans ((if_neg (by rw [qisw_f hT (v := qrw 25) t4]; exact Bool.false_ne_true)).trans ((if_neg (by rw [qisw_f hT (v := qrw 26) t5]; exact Bool.false_ne_true)).trans ((if_neg (by rw [qisw_f hT (v := qrw 27) t6]; exact Bool.false_ne_true)).trans ((if_neg (by rw [qisw_f hT (v := qrw 28) t7]; exact Bool.false_ne_true)).trans (if_pos (qisw_t hT (v := qrw 29) t8))))))))
                    rw [e] at hK
                    exact hK
                  · refine And.intro (fun _ => ?_) (fun (q : ¬ 0 = 0) => absurd q (by decide))
                    have e : qlfi x p = (-1) := (if_neg (by rw [qisw_f hT (v := qrw 22) t1]; exact Bool.false_ne_true)).trans ((if_neg (by rw [qisw_f hT (v := qrw 23) t2]; exact Bool.false_ne_true)).trans ((if_neg (by rw [qisw_f hT (v := qrw 24) t3]; exact Bool.false_ne_true)).trans ((if_neg (by rw [qisw_f hT (v := qrw 25) t4]; exact Bool.false_ne_true)).trans ((if_neg (by rw [qisw_f hT (v := qrw 26) t5]; exact Bool.false_ne_true)).trans ((if_neg (by rw [qisw_f hT (v := qrw 27) t6]; exact Bool.false_ne_true)).trans ((if_neg (by rw [qisw_f hT (v := qrw 28) t7]; exact Bool.false_ne_true)).trans (if_neg (by rw [qisw_f hT (v := qrw 29) t8]; exact Bool.false_ne_true))))))))
                    rw [e] at hK
                    exact hK
  · exact absurd h id
theorem uk_243l (X : zX gKX E) (B : zB E) {σ0 : vS} {u0 : Int} {L : List Int} {b : Int} (hK : ∀ (u2 : Int) (σ2 : vS), u2 ≤ u0 → zIv σ2 u2 → zfd σ0 σ2 → rst (σ0 72) L (σ2 12 48) b b → σ2 12 49 = b → K none σ2) : ∀ (m : Nat) (σ : vS) (u d : Int), σ 12 48 < (m : Int) → u ≤ u0 → zIv σ u → σ 12 50 = 1 → zfd σ0 σ → rst (σ0 72) L (σ 12 48) d b → σ 12 49 = d → d ≤ 20 → zGL E gJ1 mdT w gm_243 0 [(0, .inr (.inl 12))] σ K := by
  intro m
  induction m with
  | zero =>
    intro σ u d h _ hI hw _
    have := zIw_b hI (by omega)
    omega
  | succ m ih =>
    intro σ u d hm hu hI hw hf hS hd hd2
    have hbd := zIw_b hI (by omega)
    have hrb := rst_b hS
    refine zbdL (fun hb => zgoL X B zS_nilL [] [(0, [0])] (fun m => Nat.beq m.2.2.2.2.2.2.length 31) (by decide +kernel) ?_)
    have f1 : 0 ≤ σ 12 48 ∧ σ 12 48 ≤ 45 := zfL B hb (t := 12) (f := 48) (by decide +kernel)
    refine And.intro (fun (c2 : (σ 12 48) ≤ 0) => ?_) (fun (c3 : 0 < (σ 12 48)) => ?_)
    · show K none σ
      have hdb : d = b := rst_e hS (by rw [← hf.1 72 (by decide) (by decide)]; omega)
      subst hdb
      exact hK _ _ hu hI hf hS hd
    · refine And.intro (show -2147483648 ≤ ((σ 12 48) - 1) ∧ ((σ 12 48) - 1) ≤ 2147483647 from by omega) ?_
      refine And.intro (show 0 ≤ ((σ 12 48) - 1) ∧ ((σ 12 48) - 1) < 45 from by omega) ?_
      have f4 : (-2147483648) ≤ σ 72 ((σ 12 48) - 1) ∧ σ 72 ((σ 12 48) - 1) ≤ 2147483647 := zbL B hb (t := 72) (a := 0) (n := 45) (i := (σ 12 48) - 1) (by decide +kernel) (by omega) (by omega)
      refine And.intro (fun (c5 : ¬ (σ 72 ((σ 12 48) - 1)) = 20) => ?_) (fun (c6 : (σ 72 ((σ 12 48) - 1)) = 20) => ?_)
      · show K none σ
        have hdb : d = b := rst_e hS (by rw [← hf.1 72 (by decide) (by decide)]; omega)
        subst hdb
        exact hK _ _ hu hI hf hS hd
      · refine And.intro (show -2147483648 ≤ ((σ 12 48) - 1) ∧ ((σ 12 48) - 1) ≤ 2147483647 from by omega) ?_
        refine And.intro (show 0 ≤ ((σ 12 48) - 1) ∧ ((σ 12 48) - 1) ≤ 45 from by omega) ?_
        have f7 : (-2147483648) ≤ σ 12 49 ∧ σ 12 49 ≤ 2147483647 := zfL B hb (t := 12) (f := 49) (by decide +kernel)
        refine And.intro (show -2147483648 ≤ ((σ 12 49) - 1) ∧ ((σ 12 49) - 1) ≤ 2147483647 from by omega) ?_
        refine And.intro (show Int.negSucc 2147483647 ≤ ((σ 12 49) - 1) ∧ ((σ 12 49) - 1) ≤ 2147483647 from rgm (by omega)) ?_
        have f8 : 0 ≤ σ 12 46 ∧ σ 12 46 ≤ 53 := zfL B hb (t := 12) (f := 46) (by decide +kernel)
        refine And.intro (show -2147483648 ≤ (3 * (σ 12 46)) ∧ (3 * (σ 12 46)) ≤ 2147483647 from by omega) ?_
        refine And.intro (show 0 ≤ (3 * (σ 12 46)) ∧ (3 * (σ 12 46)) < 160 from by omega) ?_
        refine And.intro (show Int.negSucc 2147483647 ≤ 20 ∧ 20 ≤ 2147483647 from rgm (by omega)) ?_
        refine And.intro (show -2147483648 ≤ (3 * (σ 12 46)) ∧ (3 * (σ 12 46)) ≤ 2147483647 from by omega) ?_
        refine And.intro (show -2147483648 ≤ ((3 * (σ 12 46)) + 1) ∧ ((3 * (σ 12 46)) + 1) ≤ 2147483647 from by omega) ?_
        refine And.intro (show 0 ≤ ((3 * (σ 12 46)) + 1) ∧ ((3 * (σ 12 46)) + 1) < 160 from by omega) ?_
        refine And.intro (show Int.negSucc 2147483647 ≤ 0 ∧ 0 ≤ 2147483647 from rgm (by omega)) ?_
        refine And.intro (show -2147483648 ≤ (3 * (σ 12 46)) ∧ (3 * (σ 12 46)) ≤ 2147483647 from by omega) ?_
        refine And.intro (show -2147483648 ≤ ((3 * (σ 12 46)) + 2) ∧ ((3 * (σ 12 46)) + 2) ≤ 2147483647 from by omega) ?_
        refine And.intro (show 0 ≤ ((3 * (σ 12 46)) + 2) ∧ ((3 * (σ 12 46)) + 2) < 160 from by omega) ?_
        refine And.intro (show Int.negSucc 2147483647 ≤ 0 ∧ 0 ≤ 2147483647 from rgm (by omega)) ?_
        refine And.intro (show -2147483648 ≤ ((σ 12 46) + 1) ∧ ((σ 12 46) + 1) ≤ 2147483647 from by omega) ?_
        refine And.intro (show 0 ≤ ((σ 12 46) + 1) ∧ ((σ 12 46) + 1) ≤ 53 from by omega) ?_
        show zGL E gJ1 mdT w gm_243 0 [(0, .inr (.inl 12))] (vup (vup (vup (vup (vup (vup σ 12 48 ((σ 12 48) - 1)) 12 49 ((σ 12 49) - 1)) 54 (3 * (σ 12 46)) 20) 54 ((3 * (σ 12 46)) + 1) 0) 54 ((3 * (σ 12 46)) + 2) 0) 12 46 ((σ 12 46) + 1)) K
        have hI2 : zIv (vup (vup (vup (vup (vup (vup σ 12 48 ((σ 12 48) - 1)) 12 49 ((σ 12 49) - 1)) 54 (3 * (σ 12 46)) 20) 54 ((3 * (σ 12 46)) + 1) 0) 54 ((3 * (σ 12 46)) + 2) 0) 12 46 ((σ 12 46) + 1)) (u - 1) := by
          show zIw ((vup (vup (vup (vup (vup (vup σ 12 48 ((σ 12 48) - 1)) 12 49 ((σ 12 49) - 1)) 54 (3 * (σ 12 46)) 20) 54 ((3 * (σ 12 46)) + 1) 0) 54 ((3 * (σ 12 46)) + 2) 0) 12 46 ((σ 12 46) + 1)) 54) (σ 72) (σ 12 46 + 1) (σ 12 48 - 1) (σ 12 47) (σ 12 50) _
          rw [hw]
          rw [show (vup (vup (vup (vup (vup (vup σ 12 48 ((σ 12 48) - 1)) 12 49 ((σ 12 49) - 1)) 54 (3 * (σ 12 46)) 20) 54 ((3 * (σ 12 46)) + 1) 0) 54 ((3 * (σ 12 46)) + 2) 0) 12 46 ((σ 12 46) + 1)) 54 = ful (ful (ful (σ 54) (3 * (σ 12 46)) 20) ((3 * (σ 12 46)) + 1) 0) ((3 * (σ 12 46)) + 2) 0 from vup3]
          have hI := hI
          unfold zIv at hI
          rw [hw] at hI
          exact zIw_not hI (by omega) (by assumption) ful3_lo ful3_at
        have hs : σ0 72 (σ 12 48 - 1) = 20 := by rw [← hf.1 72 (by decide) (by decide)]; assumption
        exact ih _ (u - 1) (d - 1) (show σ 12 48 - 1 < (m : Int) from by omega) (by omega) hI2 (show σ 12 50 = 1 from hw) (zfd_up hf) (show rst (σ0 72) L (σ 12 48 - 1) (d - 1) b from rst_m hS (by omega) hs) (show σ 12 49 - 1 = d - 1 from by omega) (by omega)
theorem uk_243 (X : zX gKX E) (B : zB E) : zOKL E gJ1 mdT w 243 us243 := by
  intro q hq vs σ K h
  cases (show gMT 243 = some (gm_243, 1) from rfl).symm.trans hq
  unfold us243 at h
  split at h
  · obtain ⟨u, L, d, b, ⟨h1, h2⟩, ⟨h3, h4, h5⟩, h6⟩ := h
    have := zIw_b h1 (by omega)
    exact uk_243l X B h6 41 σ u d (by omega) (Int.le_refl _) h1 h2 zfd_refl h3 h4 h5
  · exact absurd h id
theorem uk_231l (X : zX gKX E) (B : zB E) {σ0 : vS} {u x b : Int} {L : List Int} (hK : ∀ σ2 : vS, zIv σ2 u → zfd σ0 σ2 → rst (σ0 72) L (σ2 12 48) b b → σ2 12 49 = b → (x = 22 → σ2 12 48 ≤ 0 ∨ ¬ zj (σ2 72) (σ2 12 48 - 1)) → K none σ2) : ∀ (m : Nat) (σ : vS), σ 12 48 < (m : Int) → zIv σ u → σ 12 50 = 1 → zfd σ0 σ → rst (σ0 72) L (σ 12 48) b b → σ 12 49 = b → zGL E gJ1 mdT w gm_231 0 [(0, .inr (.inl 12)), (1, .inl x)] σ K := by
  intro m
  induction m with
  | zero =>
    intro σ h hI hw _
    have := zIw_b hI (by omega)
    omega
  | succ m ih =>
    intro σ hm hI hw hf hS hd
    have hbd := zIw_b hI (by omega)
    refine zbdL (fun hb => zgoL X B zS_nilL [] [(0, [0, 1])] (fun m => Nat.beq m.2.2.2.2.2.2.length 41) (by decide +kernel) ?_)
    have f1 : 0 ≤ σ 12 48 ∧ σ 12 48 ≤ 45 := zfL B hb (t := 12) (f := 48) (by decide +kernel)
    refine And.intro (fun (c2 : (σ 12 48) ≤ 0) => ?_) (fun (c3 : 0 < (σ 12 48)) => ?_)
    · show K none σ
      exact hK _ hI hf hS hd (fun e => by first | (left; omega) | (right; unfold zj; omega) | (exfalso; omega))
    · refine And.intro (show -2147483648 ≤ ((σ 12 48) - 1) ∧ ((σ 12 48) - 1) ≤ 2147483647 from by omega) ?_
      refine And.intro (show 0 ≤ ((σ 12 48) - 1) ∧ ((σ 12 48) - 1) < 45 from by omega) ?_
      have f4 : (-2147483648) ≤ σ 72 ((σ 12 48) - 1) ∧ σ 72 ((σ 12 48) - 1) ≤ 2147483647 := zbL B hb (t := 72) (a := 0) (n := 45) (i := (σ 12 48) - 1) (by decide +kernel) (by omega) (by omega)
      refine And.intro (fun (c5 : (σ 72 ((σ 12 48) - 1)) = 21) => ?_) (fun (c6 : ¬ (σ 72 ((σ 12 48) - 1)) = 21) => ?_)
      · refine And.intro (show -2147483648 ≤ ((σ 12 48) - 1) ∧ ((σ 12 48) - 1) ≤ 2147483647 from by omega) ?_
        refine And.intro (show 0 ≤ ((σ 12 48) - 1) ∧ ((σ 12 48) - 1) ≤ 45 from by omega) ?_
        refine And.intro (show 0 ≤ ((σ 12 48) - 1) ∧ ((σ 12 48) - 1) < 45 from by omega) ?_
        have f7 : 0 ≤ σ 12 46 ∧ σ 12 46 ≤ 53 := zfL B hb (t := 12) (f := 46) (by decide +kernel)
        refine And.intro (show -2147483648 ≤ (3 * (σ 12 46)) ∧ (3 * (σ 12 46)) ≤ 2147483647 from by omega) ?_
        refine And.intro (show 0 ≤ (3 * (σ 12 46)) ∧ (3 * (σ 12 46)) < 160 from by omega) ?_
        refine And.intro (show Int.negSucc 2147483647 ≤ (σ 72 ((σ 12 48) - 1)) ∧ (σ 72 ((σ 12 48) - 1)) ≤ 2147483647 from rgm (by omega)) ?_
        refine And.intro (show -2147483648 ≤ (3 * (σ 12 46)) ∧ (3 * (σ 12 46)) ≤ 2147483647 from by omega) ?_
        refine And.intro (show -2147483648 ≤ ((3 * (σ 12 46)) + 1) ∧ ((3 * (σ 12 46)) + 1) ≤ 2147483647 from by omega) ?_
        refine And.intro (show 0 ≤ ((3 * (σ 12 46)) + 1) ∧ ((3 * (σ 12 46)) + 1) < 160 from by omega) ?_
        refine And.intro (show Int.negSucc 2147483647 ≤ 0 ∧ 0 ≤ 2147483647 from rgm (by omega)) ?_
        refine And.intro (show -2147483648 ≤ (3 * (σ 12 46)) ∧ (3 * (σ 12 46)) ≤ 2147483647 from by omega) ?_
        refine And.intro (show -2147483648 ≤ ((3 * (σ 12 46)) + 2) ∧ ((3 * (σ 12 46)) + 2) ≤ 2147483647 from by omega) ?_
        refine And.intro (show 0 ≤ ((3 * (σ 12 46)) + 2) ∧ ((3 * (σ 12 46)) + 2) < 160 from by omega) ?_
        refine And.intro (show Int.negSucc 2147483647 ≤ 0 ∧ 0 ≤ 2147483647 from rgm (by omega)) ?_
        refine And.intro (show -2147483648 ≤ ((σ 12 46) + 1) ∧ ((σ 12 46) + 1) ≤ 2147483647 from by omega) ?_
        refine And.intro (show 0 ≤ ((σ 12 46) + 1) ∧ ((σ 12 46) + 1) ≤ 53 from by omega) ?_
        show zGL E gJ1 mdT w gm_231 0 [(0, .inr (.inl 12)), (1, .inl x)] (vup (vup (vup (vup (vup σ 12 48 ((σ 12 48) - 1)) 54 (3 * (σ 12 46)) (σ 72 ((σ 12 48) - 1))) 54 ((3 * (σ 12 46)) + 1) 0) 54 ((3 * (σ 12 46)) + 2) 0) 12 46 ((σ 12 46) + 1)) K
        have hI2 : zIv (vup (vup (vup (vup (vup σ 12 48 ((σ 12 48) - 1)) 54 (3 * (σ 12 46)) (σ 72 ((σ 12 48) - 1))) 54 ((3 * (σ 12 46)) + 1) 0) 54 ((3 * (σ 12 46)) + 2) 0) 12 46 ((σ 12 46) + 1)) u := by
          show zIw ((vup (vup (vup (vup (vup σ 12 48 ((σ 12 48) - 1)) 54 (3 * (σ 12 46)) (σ 72 ((σ 12 48) - 1))) 54 ((3 * (σ 12 46)) + 1) 0) 54 ((3 * (σ 12 46)) + 2) 0) 12 46 ((σ 12 46) + 1)) 54) (σ 72) (σ 12 46 + 1) (σ 12 48 - 1) (σ 12 47) (σ 12 50) _
          rw [hw]
          rw [show (vup (vup (vup (vup (vup σ 12 48 ((σ 12 48) - 1)) 54 (3 * (σ 12 46)) (σ 72 ((σ 12 48) - 1))) 54 ((3 * (σ 12 46)) + 1) 0) 54 ((3 * (σ 12 46)) + 2) 0) 12 46 ((σ 12 46) + 1)) 54 = ful (ful (ful (σ 54) (3 * (σ 12 46)) (σ 72 ((σ 12 48) - 1))) ((3 * (σ 12 46)) + 1) 0) ((3 * (σ 12 46)) + 2) 0 from vup3]
          have hI := hI
          unfold zIv at hI
          rw [hw] at hI
          exact zIw_join hI (by omega) (by first | assumption | rfl) (by first | (left; assumption) | (right; assumption)) ful3_lo ful3_at
        have hs : σ0 72 (σ 12 48 - 1) = 21 ∨ σ0 72 (σ 12 48 - 1) = 22 := by rw [← hf.1 72 (by decide) (by decide)]; first | (left; assumption) | (right; assumption)
        exact ih _ (show σ 12 48 - 1 < (m : Int) from by omega) hI2 (show σ 12 50 = 1 from hw) (zfd_up2 hf) (show rst (σ0 72) L (σ 12 48 - 1) b b from rst_k hS (by omega) hs) hd
      · refine And.intro (show -2147483648 ≤ ((σ 12 48) - 1) ∧ ((σ 12 48) - 1) ≤ 2147483647 from by omega) ?_
        refine And.intro (show 0 ≤ ((σ 12 48) - 1) ∧ ((σ 12 48) - 1) < 45 from by omega) ?_
        refine And.intro (fun (c8 : ¬ (σ 72 ((σ 12 48) - 1)) = 22) => ?_) (fun (c9 : (σ 72 ((σ 12 48) - 1)) = 22) => ?_)
        · show K none σ
          exact hK _ hI hf hS hd (fun e => by first | (left; omega) | (right; unfold zj; omega) | (exfalso; omega))
        · refine And.intro (fun (c10 : ¬ x = 22) => ?_) (fun (c11 : x = 22) => ?_)
          · show K none σ
            exact hK _ hI hf hS hd (fun e => by first | (left; omega) | (right; unfold zj; omega) | (exfalso; omega))
          · refine And.intro (show -2147483648 ≤ ((σ 12 48) - 1) ∧ ((σ 12 48) - 1) ≤ 2147483647 from by omega) ?_
            refine And.intro (show 0 ≤ ((σ 12 48) - 1) ∧ ((σ 12 48) - 1) ≤ 45 from by omega) ?_
            refine And.intro (show 0 ≤ ((σ 12 48) - 1) ∧ ((σ 12 48) - 1) < 45 from by omega) ?_
            have f12 : 0 ≤ σ 12 46 ∧ σ 12 46 ≤ 53 := zfL B hb (t := 12) (f := 46) (by decide +kernel)
            refine And.intro (show -2147483648 ≤ (3 * (σ 12 46)) ∧ (3 * (σ 12 46)) ≤ 2147483647 from by omega) ?_
            refine And.intro (show 0 ≤ (3 * (σ 12 46)) ∧ (3 * (σ 12 46)) < 160 from by omega) ?_
            refine And.intro (show Int.negSucc 2147483647 ≤ (σ 72 ((σ 12 48) - 1)) ∧ (σ 72 ((σ 12 48) - 1)) ≤ 2147483647 from rgm (by omega)) ?_
            refine And.intro (show -2147483648 ≤ (3 * (σ 12 46)) ∧ (3 * (σ 12 46)) ≤ 2147483647 from by omega) ?_
            refine And.intro (show -2147483648 ≤ ((3 * (σ 12 46)) + 1) ∧ ((3 * (σ 12 46)) + 1) ≤ 2147483647 from by omega) ?_
            refine And.intro (show 0 ≤ ((3 * (σ 12 46)) + 1) ∧ ((3 * (σ 12 46)) + 1) < 160 from by omega) ?_
            refine And.intro (show Int.negSucc 2147483647 ≤ 0 ∧ 0 ≤ 2147483647 from rgm (by omega)) ?_
            refine And.intro (show -2147483648 ≤ (3 * (σ 12 46)) ∧ (3 * (σ 12 46)) ≤ 2147483647 from by omega) ?_
            refine And.intro (show -2147483648 ≤ ((3 * (σ 12 46)) + 2) ∧ ((3 * (σ 12 46)) + 2) ≤ 2147483647 from by omega) ?_
            refine And.intro (show 0 ≤ ((3 * (σ 12 46)) + 2) ∧ ((3 * (σ 12 46)) + 2) < 160 from by omega) ?_
            refine And.intro (show Int.negSucc 2147483647 ≤ 0 ∧ 0 ≤ 2147483647 from rgm (by omega)) ?_
            refine And.intro (show -2147483648 ≤ ((σ 12 46) + 1) ∧ ((σ 12 46) + 1) ≤ 2147483647 from by omega) ?_
            refine And.intro (show 0 ≤ ((σ 12 46) + 1) ∧ ((σ 12 46) + 1) ≤ 53 from by omega) ?_
            show zGL E gJ1 mdT w gm_231 0 [(0, .inr (.inl 12)), (1, .inl x)] (vup (vup (vup (vup (vup σ 12 48 ((σ 12 48) - 1)) 54 (3 * (σ 12 46)) (σ 72 ((σ 12 48) - 1))) 54 ((3 * (σ 12 46)) + 1) 0) 54 ((3 * (σ 12 46)) + 2) 0) 12 46 ((σ 12 46) + 1)) K
            have hI2 : zIv (vup (vup (vup (vup (vup σ 12 48 ((σ 12 48) - 1)) 54 (3 * (σ 12 46)) (σ 72 ((σ 12 48) - 1))) 54 ((3 * (σ 12 46)) + 1) 0) 54 ((3 * (σ 12 46)) + 2) 0) 12 46 ((σ 12 46) + 1)) u := by
              show zIw ((vup (vup (vup (vup (vup σ 12 48 ((σ 12 48) - 1)) 54 (3 * (σ 12 46)) (σ 72 ((σ 12 48) - 1))) 54 ((3 * (σ 12 46)) + 1) 0) 54 ((3 * (σ 12 46)) + 2) 0) 12 46 ((σ 12 46) + 1)) 54) (σ 72) (σ 12 46 + 1) (σ 12 48 - 1) (σ 12 47) (σ 12 50) _
              rw [hw]
              rw [show (vup (vup (vup (vup (vup σ 12 48 ((σ 12 48) - 1)) 54 (3 * (σ 12 46)) (σ 72 ((σ 12 48) - 1))) 54 ((3 * (σ 12 46)) + 1) 0) 54 ((3 * (σ 12 46)) + 2) 0) 12 46 ((σ 12 46) + 1)) 54 = ful (ful (ful (σ 54) (3 * (σ 12 46)) (σ 72 ((σ 12 48) - 1))) ((3 * (σ 12 46)) + 1) 0) ((3 * (σ 12 46)) + 2) 0 from vup3]
              have hI := hI
              unfold zIv at hI
              rw [hw] at hI
              exact zIw_join hI (by omega) (by first | assumption | rfl) (by first | (left; assumption) | (right; assumption)) ful3_lo ful3_at
            have hs : σ0 72 (σ 12 48 - 1) = 21 ∨ σ0 72 (σ 12 48 - 1) = 22 := by rw [← hf.1 72 (by decide) (by decide)]; first | (left; assumption) | (right; assumption)
            exact ih _ (show σ 12 48 - 1 < (m : Int) from by omega) hI2 (show σ 12 50 = 1 from hw) (zfd_up2 hf) (show rst (σ0 72) L (σ 12 48 - 1) b b from rst_k hS (by omega) hs) hd
theorem uk_231 (X : zX gKX E) (B : zB E) : zOKL E gJ1 mdT w 231 us231 := by
  intro q hq vs σ K h
  cases (show gMT 231 = some (gm_231, 2) from rfl).symm.trans hq
  unfold us231 at h
  split at h
  · obtain ⟨u, L, b, ⟨h1, h2⟩, ⟨h3, h4⟩, h6⟩ := h
    have := zIw_b h1 (by omega)
    exact uk_231l X B h6 41 σ (by omega) h1 h2 zfd_refl h3 h4
  · exact absurd h id
end ZV2
