/-! THE REFERENCE'S SENTENCE: behind -/
theorem zfd_tr {a b c : vS} (h : zfd a b) (h2 : zfd b c) : zfd a c := ⟨fun t x y => (h2.1 t x y).trans (h.1 t x y), fun i x y z => (h2.2 i x y z).trans (h.2 i x y z)⟩
section ZV4
variable {E : zE} {w : va_W} {σ : vS} {K : vKL}
set_option maxRecDepth 16384 in
theorem uk_180 (X : zX gKX E) (B : zB E) : zOKL E gJ1 mdT w 180 us180 := by
  intro q hq vs σ K h
  cases (show gMT 180 = some (gm_180, 1) from rfl).symm.trans hq
  unfold us180 at h
  split at h
  · obtain ⟨x, σ0, d, b, L, o, p, u, hQ, hm, hk, h0, h1⟩ := h
    show zGL E gJ1 mdT w gm_180 0 [(0, .inr (.inl 12))] σ K
    have hT := hQ.1
    have h50 : σ 12 50 = 1 := hQ.2.2.1.1
    have hbd := zIw_b hQ.2.1 (by omega)
    have h47 := hQ.2.2.1.2
    have h49 := hQ.2.2.2.1.2.1
    have h9 := hQ.2.2.2.1.2.2
    have hrb := rst_b hQ.2.2.2.1.1
    have hb9 : b ≤ 9 := by omega
    refine zbdL (fun hb => ?_)
    have hl0 := (lim_ok B hb hT.1).1
    refine zbdL (fun hb => zgoL X B (uSL_ok X B) [] [] (fun m => false) (by decide +kernel) ?_)
    refine ⟨u, L, d, b, ⟨hQ.2.1, h50⟩, ⟨hQ.2.2.2.1.1, h49, by omega⟩, fun (u1 : Int) (σ1 : vS) g0 (gI1 : zIv σ1 u1) (gz1 : zfd σ σ1) gS1 gD1 => ?_⟩
    have T1 : rT x p σ1 := rT_zfd hT gz1
    have o1 : σ1 12 50 = 1 := (gz1.2 50 (by decide) (by decide) (by decide)).trans h50
    have hb1 := zIw_b gI1 (by omega)
    refine fun z (t1 : (z = 1 ∧ σ1 12 11 = 1 ∧ σ1 12 17 = 6385252) ∨ (z = 0 ∧ ¬ (σ1 12 11 = 1 ∧ σ1 12 17 = 6385252))) => ?_
    rcases t1 with ⟨rfl, t1⟩ | ⟨rfl, t1⟩
    · refine And.intro (fun _ => ?_) (fun (q : 1 = 0) => absurd q (by decide))
      refine fun z (t2 : (z = 1 ∧ σ1 12 11 = 1 ∧ σ1 12 17 = 6385252) ∨ (z = 0 ∧ ¬ (σ1 12 11 = 1 ∧ σ1 12 17 = 6385252))) => ?_
      rcases t2 with ⟨rfl, t2⟩ | ⟨rfl, t2⟩
      · refine And.intro (fun (q : 1 = 0) => absurd q (by decide)) (fun _ => ?_)
        refine ⟨u1, L, b, ⟨gI1, o1⟩, ⟨by rw [gz1.1 72 (by decide) (by decide)]; exact gS1, gD1⟩, fun (σ2 : vS) (gI2 : zIv σ2 u1) (gz2 : zfd σ1 σ2) gS2 gD2 gj => ?_⟩
        have T2 : rT x p σ2 := rT_zfd T1 gz2
        have z2 : zfd σ σ2 := zfd_tr gz1 gz2
        have o2 : σ2 12 50 = 1 := (gz2.2 50 (by decide) (by decide) (by decide)).trans o1
        have hb2 := zIw_b gI2 (by omega)
        rw [gz1.1 72 (by decide) (by decide)] at gS2
        have y11 : σ2 12 11 = σ1 12 11 := gz2.2 11 (by decide) (by decide) (by decide)
        have y14 : σ2 12 14 = σ1 12 14 := gz2.2 14 (by decide) (by decide) (by decide)
        have y17 : σ2 12 17 = σ1 12 17 := gz2.2 17 (by decide) (by decide) (by decide)
        refine fun z (t3 : (z = 1 ∧ σ2 12 11 = 1 ∧ σ2 12 17 = 6385252) ∨ (z = 0 ∧ ¬ (σ2 12 11 = 1 ∧ σ2 12 17 = 6385252))) => ?_
        rcases t3 with ⟨rfl, t3⟩ | ⟨rfl, t3⟩
        · refine And.intro (fun (q : 1 = 0) => absurd q (by decide)) (fun _ => ?_)
          refine And.intro (show 0 ≤ (σ2 12 48) ∧ (σ2 12 48) < 45 from by omega) ?_
          refine And.intro (show Int.negSucc 2147483647 ≤ 21 ∧ 21 ≤ 2147483647 from rgm (by omega)) ?_
          refine And.intro (show -2147483648 ≤ ((σ2 12 48) + 1) ∧ ((σ2 12 48) + 1) ≤ 2147483647 from by omega) ?_
          refine And.intro (show 0 ≤ ((σ2 12 48) + 1) ∧ ((σ2 12 48) + 1) ≤ 45 from by omega) ?_
          refine And.intro (show 0 ≤ 0 ∧ 0 ≤ 1 from by omega) ?_
          refine And.intro (show 0 ≤ 0 ∧ 0 ≤ 1 from by omega) ?_
          refine fun (σ3 : vS) (fz : rfr (vup (vup (vup σ2 72 (σ2 12 48) 21) 12 48 ((σ2 12 48) + 1)) 12 50 0) σ3) (tz : rtk (rtx (vup (vup (vup σ2 72 (σ2 12 48) 21) 12 48 ((σ2 12 48) + 1)) 12 50 0)) ((vup (vup (vup σ2 72 (σ2 12 48) 21) 12 48 ((σ2 12 48) + 1)) 12 50 0) 12 3) ((vup (vup (vup σ2 72 (σ2 12 48) 21) 12 48 ((σ2 12 48) + 1)) 12 50 0) 12 5) (tE (fun q => tbk (rtx (vup (vup (vup σ2 72 (σ2 12 48) 21) 12 48 ((σ2 12 48) + 1)) 12 50 0) q)) ((vup (vup (vup σ2 72 (σ2 12 48) 21) 12 48 ((σ2 12 48) + 1)) 12 50 0) 12 3) ((vup (vup (vup σ2 72 (σ2 12 48) 21) 12 48 ((σ2 12 48) + 1)) 12 50 0) 12 4)) σ3) => ?_
          have T3 : rT x (qnx x.1 x.2.1 p) σ3 := rT_next (rT_u (rT_u (rT_t T2 (by decide)) (by decide)) (by decide)) (by have := qisw_k (qisw_t T1 (v := qrw 20) t1); omega) hl0 fz tz
          refine And.intro (show 0 ≤ 1 ∧ 1 ≤ 1 from by omega) ?_
          have eP : (qbh x b L o p) = (0, ((qnx x.1 x.2.1 p), false, b, b, L, o)) := qbh_j (Or.inl (qisw_t T1 (v := qrw 20) t1))
          rw [eP] at h1
          exact h1 rfl u1 _ (rQ_j (k := 21) hQ (by omega) gI2 z2 gS2 gD2 hb9 fz T3)
        · exfalso; omega
      · exfalso; omega
    · refine And.intro (fun (q : ¬ 0 = 0) => absurd q (by decide)) (fun _ => ?_)
      refine fun z (t4 : (z = 1 ∧ σ1 12 11 = 1 ∧ σ1 12 17 = 28530) ∨ (z = 0 ∧ ¬ (σ1 12 11 = 1 ∧ σ1 12 17 = 28530))) => ?_
      rcases t4 with ⟨rfl, t4⟩ | ⟨rfl, t4⟩
      · refine And.intro (fun (q : 1 = 0) => absurd q (by decide)) (fun _ => ?_)
        refine fun z (t5 : (z = 1 ∧ σ1 12 11 = 1 ∧ σ1 12 17 = 6385252) ∨ (z = 0 ∧ ¬ (σ1 12 11 = 1 ∧ σ1 12 17 = 6385252))) => ?_
        rcases t5 with ⟨rfl, t5⟩ | ⟨rfl, t5⟩
        · exfalso; omega
        · refine And.intro (fun _ => ?_) (fun (q : ¬ 0 = 0) => absurd q (by decide))
          refine ⟨u1, L, b, ⟨gI1, o1⟩, ⟨by rw [gz1.1 72 (by decide) (by decide)]; exact gS1, gD1⟩, fun (σ2 : vS) (gI2 : zIv σ2 u1) (gz2 : zfd σ1 σ2) gS2 gD2 gj => ?_⟩
          have T2 : rT x p σ2 := rT_zfd T1 gz2
          have z2 : zfd σ σ2 := zfd_tr gz1 gz2
          have o2 : σ2 12 50 = 1 := (gz2.2 50 (by decide) (by decide) (by decide)).trans o1
          have hb2 := zIw_b gI2 (by omega)
          rw [gz1.1 72 (by decide) (by decide)] at gS2
          have y11 : σ2 12 11 = σ1 12 11 := gz2.2 11 (by decide) (by decide) (by decide)
          have y14 : σ2 12 14 = σ1 12 14 := gz2.2 14 (by decide) (by decide) (by decide)
          have y17 : σ2 12 17 = σ1 12 17 := gz2.2 17 (by decide) (by decide) (by decide)
          refine fun z (t6 : (z = 1 ∧ σ2 12 11 = 1 ∧ σ2 12 17 = 6385252) ∨ (z = 0 ∧ ¬ (σ2 12 11 = 1 ∧ σ2 12 17 = 6385252))) => ?_
          rcases t6 with ⟨rfl, t6⟩ | ⟨rfl, t6⟩
          · exfalso; omega
          · refine And.intro (fun _ => ?_) (fun (q : ¬ 0 = 0) => absurd q (by decide))
            refine And.intro (show 0 ≤ (σ2 12 48) ∧ (σ2 12 48) < 45 from by omega) ?_
            refine And.intro (show Int.negSucc 2147483647 ≤ 22 ∧ 22 ≤ 2147483647 from rgm (by omega)) ?_
            refine And.intro (show -2147483648 ≤ ((σ2 12 48) + 1) ∧ ((σ2 12 48) + 1) ≤ 2147483647 from by omega) ?_
            refine And.intro (show 0 ≤ ((σ2 12 48) + 1) ∧ ((σ2 12 48) + 1) ≤ 45 from by omega) ?_
            refine And.intro (show 0 ≤ 0 ∧ 0 ≤ 1 from by omega) ?_
            refine And.intro (show 0 ≤ 0 ∧ 0 ≤ 1 from by omega) ?_
            refine fun (σ3 : vS) (fz : rfr (vup (vup (vup σ2 72 (σ2 12 48) 22) 12 48 ((σ2 12 48) + 1)) 12 50 0) σ3) (tz : rtk (rtx (vup (vup (vup σ2 72 (σ2 12 48) 22) 12 48 ((σ2 12 48) + 1)) 12 50 0)) ((vup (vup (vup σ2 72 (σ2 12 48) 22) 12 48 ((σ2 12 48) + 1)) 12 50 0) 12 3) ((vup (vup (vup σ2 72 (σ2 12 48) 22) 12 48 ((σ2 12 48) + 1)) 12 50 0) 12 5) (tE (fun q => tbk (rtx (vup (vup (vup σ2 72 (σ2 12 48) 22) 12 48 ((σ2 12 48) + 1)) 12 50 0) q)) ((vup (vup (vup σ2 72 (σ2 12 48) 22) 12 48 ((σ2 12 48) + 1)) 12 50 0) 12 3) ((vup (vup (vup σ2 72 (σ2 12 48) 22) 12 48 ((σ2 12 48) + 1)) 12 50 0) 12 4)) σ3) => ?_
            have T3 : rT x (qnx x.1 x.2.1 p) σ3 := rT_next (rT_u (rT_u (rT_t T2 (by decide)) (by decide)) (by decide)) (by have := qisw_k (qisw_t T1 (v := qrw 19) t4); omega) hl0 fz tz
            refine And.intro (show 0 ≤ 1 ∧ 1 ≤ 1 from by omega) ?_
            have eP : (qbh x b L o p) = (0, ((qnx x.1 x.2.1 p), false, b, b, L, o)) := qbh_j (Or.inr (qisw_t T1 (v := qrw 19) t4))
            rw [eP] at h1
            exact h1 rfl u1 _ (rQ_j (k := 22) hQ (by omega) gI2 z2 gS2 gD2 hb9 fz T3)
      · refine And.intro (fun _ => ?_) (fun (q : ¬ 0 = 0) => absurd q (by decide))
        refine ⟨u1, L, b, ⟨gI1, o1⟩, ⟨by rw [gz1.1 72 (by decide) (by decide)]; exact gS1, gD1⟩, fun (σ2 : vS) (gI2 : zIv σ2 u1) (gz2 : zfd σ1 σ2) gS2 gD2 gj => ?_⟩
        have T2 : rT x p σ2 := rT_zfd T1 gz2
        have z2 : zfd σ σ2 := zfd_tr gz1 gz2
        have o2 : σ2 12 50 = 1 := (gz2.2 50 (by decide) (by decide) (by decide)).trans o1
        have hb2 := zIw_b gI2 (by omega)
        rw [gz1.1 72 (by decide) (by decide)] at gS2
        have y11 : σ2 12 11 = σ1 12 11 := gz2.2 11 (by decide) (by decide) (by decide)
        have y14 : σ2 12 14 = σ1 12 14 := gz2.2 14 (by decide) (by decide) (by decide)
        have y17 : σ2 12 17 = σ1 12 17 := gz2.2 17 (by decide) (by decide) (by decide)
        refine fun z (t7 : (z = 1 ∧ σ2 12 11 = 3 ∧ σ2 12 14 = 41) ∨ (z = 0 ∧ ¬ (σ2 12 11 = 3 ∧ σ2 12 14 = 41))) => ?_
        rcases t7 with ⟨rfl, t7⟩ | ⟨rfl, t7⟩
        · refine And.intro (fun (q : 1 = 0) => absurd q (by decide)) (fun _ => ?_)
          refine And.intro (fun (c8 : ¬ (σ2 12 48) = 0) => ?_) (fun (c9 : (σ2 12 48) = 0) => ?_)
          · refine And.intro (show -2147483648 ≤ ((σ2 12 48) - 1) ∧ ((σ2 12 48) - 1) ≤ 2147483647 from by omega) ?_
            refine And.intro (show 0 ≤ ((σ2 12 48) - 1) ∧ ((σ2 12 48) - 1) ≤ 45 from by omega) ?_
            refine And.intro (show -2147483648 ≤ ((σ2 12 49) - 1) ∧ ((σ2 12 49) - 1) ≤ 2147483647 from by omega) ?_
            refine And.intro (show Int.negSucc 2147483647 ≤ ((σ2 12 49) - 1) ∧ ((σ2 12 49) - 1) ≤ 2147483647 from rgm (by omega)) ?_
            refine fun (σ3 : vS) (fz : rfr (vup (vup σ2 12 48 ((σ2 12 48) - 1)) 12 49 ((σ2 12 49) - 1)) σ3) (tz : rtk (rtx (vup (vup σ2 12 48 ((σ2 12 48) - 1)) 12 49 ((σ2 12 49) - 1))) ((vup (vup σ2 12 48 ((σ2 12 48) - 1)) 12 49 ((σ2 12 49) - 1)) 12 3) ((vup (vup σ2 12 48 ((σ2 12 48) - 1)) 12 49 ((σ2 12 49) - 1)) 12 5) (tE (fun q => tbk (rtx (vup (vup σ2 12 48 ((σ2 12 48) - 1)) 12 49 ((σ2 12 49) - 1)) q)) ((vup (vup σ2 12 48 ((σ2 12 48) - 1)) 12 49 ((σ2 12 49) - 1)) 12 3) ((vup (vup σ2 12 48 ((σ2 12 48) - 1)) 12 49 ((σ2 12 49) - 1)) 12 4)) σ3) => ?_
            have T3 : rT x (qnx x.1 x.2.1 p) σ3 := rT_next (rT_u (rT_u T2 (by decide)) (by decide)) (by have := qsn_k ((qsn_iff T2).mpr t7); omega) hl0 fz tz
            refine And.intro (show 0 ≤ 1 ∧ 1 ≤ 1 from by omega) ?_
            have hn : ¬ (qisw x p (qrw 20) = true ∨ qisw x p (qrw 19) = true) := fun q => q.elim (fun q => t1 ((qisw_iff T1 (v := qrw 20)).mp q)) (fun q => t4 ((qisw_iff T1 (v := qrw 19)).mp q))
            have hz : σ2 12 48 ≤ 0 ∨ ¬ (σ 72 (σ2 12 48 - 1) = 21 ∨ σ 72 (σ2 12 48 - 1) = 22) := by
              have := gj rfl
              unfold zj at this
              rw [z2.1 72 (by decide) (by decide)] at this
              exact this
            rcases rst_z gS2 hz with ⟨e1, e2⟩ | ⟨b2, L2, e1, e2, e3, e4, e5⟩
            · exfalso; omega
            · subst e1
              have eP : qbh x b (b2 :: L2) o p = (0, ((qnx x.1 x.2.1 p), true, b - 1, b2, L2, o)) := qbh_p hn ((qsn_iff T2).mpr t7)
              rw [eP] at h1
              exact h1 rfl (u1 - 1) _ (rQ_p hQ gI2 z2 (by omega) (by rw [z2.1 72 (by decide) (by decide)]; unfold zj; omega) e5 gD2 hb9 fz T3)
          · refine And.intro (by omega) ?_
            refine And.intro (show 0 ≤ 0 ∧ 0 ≤ 1 from by omega) ?_
            have hn : ¬ (qisw x p (qrw 20) = true ∨ qisw x p (qrw 19) = true) := fun q => q.elim (fun q => t1 ((qisw_iff T1 (v := qrw 20)).mp q)) (fun q => t4 ((qisw_iff T1 (v := qrw 19)).mp q))
            have hz : σ2 12 48 ≤ 0 ∨ ¬ (σ 72 (σ2 12 48 - 1) = 21 ∨ σ 72 (σ2 12 48 - 1) = 22) := by
              have := gj rfl
              unfold zj at this
              rw [z2.1 72 (by decide) (by decide)] at this
              exact this
            rcases rst_z gS2 hz with ⟨e1, e2⟩ | ⟨b2, L2, e1, e2, e3, e4, e5⟩
            · subst e1
              have eP : qbh x b [] o p = (1, (p, true, b, b, [], o)) := qbh_e hn
              rw [eP] at h0
              exact h0 (by show ¬ ((1 : Int) = 0); decide) _ (rFl_bad T2) ((vup_fr (by decide)).trans ((vup_fr (by decide)).trans ((gz2.1 55 (by decide) (by decide)).trans ((gz1.1 55 (by decide) (by decide)).trans hQ.2.2.2.2.1)))) ((vup_fr (by decide)).trans ((vup_fr (by decide)).trans ((gz2.1 52 (by decide) (by decide)).trans ((gz1.1 52 (by decide) (by decide)).trans hQ.2.2.2.2.2))))
            · exfalso; omega
        · refine And.intro (fun _ => ?_) (fun (q : ¬ 0 = 0) => absurd q (by decide))
          refine And.intro (by omega) ?_
          refine And.intro (show 0 ≤ 0 ∧ 0 ≤ 1 from by omega) ?_
          have hn : ¬ (qisw x p (qrw 20) = true ∨ qisw x p (qrw 19) = true) := fun q => q.elim (fun q => t1 ((qisw_iff T1 (v := qrw 20)).mp q)) (fun q => t4 ((qisw_iff T1 (v := qrw 19)).mp q))
          have eP : (qbh x b L o p) = (1, (p, true, b, b, L, o)) := qbh_f hn (fun q => t7 ((qsn_iff T2).mp q))
          rw [eP] at h0
          exact h0 (by show ¬ ((1 : Int) = 0); decide) _ (rFl_bad T2) ((vup_fr (by decide)).trans ((vup_fr (by decide)).trans ((gz2.1 55 (by decide) (by decide)).trans ((gz1.1 55 (by decide) (by decide)).trans hQ.2.2.2.2.1)))) ((vup_fr (by decide)).trans ((vup_fr (by decide)).trans ((gz2.1 52 (by decide) (by decide)).trans ((gz1.1 52 (by decide) (by decide)).trans hQ.2.2.2.2.2))))
  · exact absurd h id
end ZV4
