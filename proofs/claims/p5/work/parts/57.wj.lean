/-! THE CLASS READS A SENTENCE: a ONE, a COND, depth by depth -/
section ZVR
variable {E : zE} {w : va_W} {σ : vS} {K : vKL}
set_option maxRecDepth 16384 in
theorem vt_55_9 (X : zX gKX E) (B : zB E) : zOKR E md72 w gr_55_9 (vt55 9) := by
  intro vs σ K h
  unfold vt55 at h
  split at h
  · rename_i d
    obtain ⟨hd, x, p, S, ⟨hT, hS, hn⟩, h0, h1⟩ := h
    show zGC E md72 w gr_55_9.1 0 [(0, .inr (.inl 102)), (1, .inr (.inl 7)), (2, .inr (.inl 93)), (3, .inl d)] σ K
    refine zbdC (fun hb => zgoR (⟨rfl, rfl, rfl⟩ : zalt gr_52_9 (gm_52, 8)) (⟨rfl, rfl, rfl⟩ : zalt gr_55_9 (gm_55, 7)) X B zOKR_no zOKR_no (vLA_ok X B) (by decide) [] [] (fun m => false) (by decide +kernel) ?_)
    refine fun z (t1 : (z = 1 ∧ σ 7 4 = 5 ∧ σ 7 6 = 40) ∨ (z = 0 ∧ ¬ (σ 7 4 = 5 ∧ σ 7 6 = 40))) => ?_
    rcases t1 with ⟨rfl, t1⟩ | ⟨rfl, t1⟩
    · refine fun (r2 : Int) (t3 : (σ 7 4 = 2 ∧ r2 = σ 7 6) ∨ (¬ σ 7 4 = 2 ∧ r2 = -1)) => ?_
      refine And.intro (fun _ => ?_) (fun (q : 1 = 0) => absurd q (by decide))
      have f4 : 0 ≤ σ 102 4 ∧ σ 102 4 ≤ 20 := zfC hb (t := 102) (f := 4) (by decide +kernel)
      refine And.intro (fun (c5 : 20 ≤ (σ 102 4)) => ?_) (fun (c6 : (σ 102 4) < 20) => ?_)
      · refine And.intro (cT_fl hT (by omega)) ?_
        refine And.intro (show 0 ≤ 0 ∧ 0 ≤ 1 from by omega) ?_
        have hB : ¬ qbeg x p = -1 := by have := (cT_bg hT).1 t1; omega
        exact h0 4 p (σ 102 4) _ (by decide) (fun b L => qN_of (qop_4 hB (by omega)) (by decide)) (cFl_of hT) (cSf_cg cSf_refl cg_fl)
      · refine And.intro (fun (c7 : d ≤ 8) => ?_) (fun (c8 : 8 < d) => ?_)
        · refine And.intro (show -2147483648 ≤ ((σ 102 4) + 1) ∧ ((σ 102 4) + 1) ≤ 2147483647 from by omega) ?_
          refine And.intro (show 0 ≤ ((σ 102 4) + 1) ∧ ((σ 102 4) + 1) ≤ 20 from by omega) ?_
          exfalso; omega
        · refine And.intro (cT_fl hT (by omega)) ?_
          refine And.intro (show 0 ≤ 0 ∧ 0 ≤ 1 from by omega) ?_
          have hB : ¬ qbeg x p = -1 := by have := (cT_bg hT).1 t1; omega
          exact h0 4 p (σ 102 4) _ (by decide) (fun b L => qN_of (qop_4 hB (by omega)) (by decide)) (cFl_of hT) (cSf_cg cSf_refl cg_fl)
    · refine fun (r9 : Int) (t10 : (σ 7 4 = 2 ∧ r9 = σ 7 6) ∨ (¬ σ 7 4 = 2 ∧ r9 = -1)) => ?_
      refine And.intro (fun (q : ¬ 0 = 0) => absurd q (by decide)) (fun _ => ?_)
      refine And.intro (fun (c11 : r9 < 21) => ?_) (fun (c12 : 21 ≤ r9) => ?_)
      · refine And.intro (cT_fl hT (by omega)) ?_
        refine And.intro (show 0 ≤ 0 ∧ 0 ≤ 1 from by omega) ?_
        have hB : qbeg x p = -1 := (cT_bg hT).2.2.2 t1 (by omega)
        exact h0 1 p (σ 102 4) _ (by decide) (fun b L => qN_of (qop_1 hB) (by decide)) (cFl_of hT) (cSf_cg cSf_refl cg_fl)
      · refine And.intro (fun (c13 : r9 ≤ 29) => ?_) (fun (c14 : 29 < r9) => ?_)
        · have f15 : 0 ≤ σ 102 4 ∧ σ 102 4 ≤ 20 := zfC hb (t := 102) (f := 4) (by decide +kernel)
          refine And.intro (fun (c16 : 20 ≤ (σ 102 4)) => ?_) (fun (c17 : (σ 102 4) < 20) => ?_)
          · refine And.intro (cT_fl hT (by omega)) ?_
            refine And.intro (show 0 ≤ 0 ∧ 0 ≤ 1 from by omega) ?_
            have hB : ¬ qbeg x p = -1 := by
              by_cases e : σ 7 6 = 21
              · have := (cT_bg hT).2.1 (by omega); omega
              · have := (cT_bg hT).2.2.1 (by omega); omega
            exact h0 4 p (σ 102 4) _ (by decide) (fun b L => qN_of (qop_4 hB (by omega)) (by decide)) (cFl_of hT) (cSf_cg cSf_refl cg_fl)
          · refine And.intro (fun (c18 : d ≤ 8) => ?_) (fun (c19 : 8 < d) => ?_)
            · refine And.intro (show -2147483648 ≤ ((σ 102 4) + 1) ∧ ((σ 102 4) + 1) ≤ 2147483647 from by omega) ?_
              refine And.intro (show 0 ≤ ((σ 102 4) + 1) ∧ ((σ 102 4) + 1) ≤ 20 from by omega) ?_
              exfalso; omega
            · refine And.intro (cT_fl hT (by omega)) ?_
              refine And.intro (show 0 ≤ 0 ∧ 0 ≤ 1 from by omega) ?_
              have hB : ¬ qbeg x p = -1 := by
                by_cases e : σ 7 6 = 21
                · have := (cT_bg hT).2.1 (by omega); omega
                · have := (cT_bg hT).2.2.1 (by omega); omega
              exact h0 4 p (σ 102 4) _ (by decide) (fun b L => qN_of (qop_4 hB (by omega)) (by decide)) (cFl_of hT) (cSf_cg cSf_refl cg_fl)
        · refine And.intro (cT_fl hT (by omega)) ?_
          refine And.intro (show 0 ≤ 0 ∧ 0 ≤ 1 from by omega) ?_
          have hB : qbeg x p = -1 := (cT_bg hT).2.2.2 t1 (by omega)
          exact h0 1 p (σ 102 4) _ (by decide) (fun b L => qN_of (qop_1 hB) (by decide)) (cFl_of hT) (cSf_cg cSf_refl cg_fl)
  · exact absurd h id
theorem vt_52z_9 (X : zX gKX E) (B : zB E) (i55 : zOKR E md72 w gr_55_9 (vt55 9)) {d bo i : Int} (hK : K (some (.inl 0)) σ) : zGC E md72 w gr_52_9.1 15 [(0, .inr (.inl 102)), (1, .inr (.inl 7)), (2, .inr (.inl 93)), (3, .inl d), (4, .inl 0), (5, .inl bo), (6, .inl i)] σ K := by
  refine zbdC (fun hb => zgoR (⟨rfl, rfl, rfl⟩ : zalt gr_52_9 (gm_52, 8)) (⟨rfl, rfl, rfl⟩ : zalt gr_55_9 (gm_55, 7)) X B zOKR_no i55 (vLA_ok X B) (by decide) [] [(15, [0, 1, 2, 3, 4, 5, 6])] (fun m => Nat.beq m.2.2.2.2.2.2.length 59) (by decide +kernel) ?_)
  refine And.intro (fun _ => ?_) (fun (q : ¬ 0 = 0) => absurd q (by decide))
  refine And.intro (show 0 ≤ 0 ∧ 0 ≤ 1 from by omega) ?_
  exact hK
set_option maxRecDepth 16384 in
theorem vt_52l_9 (X : zX gKX E) (B : zB E) (i55 : zOKR E md72 w gr_55_9 (vt55 9)) {d o0 p0 : Int} {x : qX} {S : qS} {σ0 : vS} (hd : d = 9) (hS0 : cSn S σ0) (hn : x.2.1 ≤ 940) (h0 : ∀ (k p2 o2 : Int) (σ2 : vS), ¬ k = 0 → (∀ L : List Int, qN x S false d d L o0 p0 = (k, p2, o2)) → cFl x k p2 σ2 → cSf σ0 σ2 → K (some (.inl 0)) σ2) (h1 : ∀ (p2 : Int) (σ2 : vS), cT x p2 σ2 → cSf σ0 σ2 → (o0 + 1 ≤ σ2 102 4 ∧ σ2 102 4 ≤ 20) → (∀ L : List Int, qN x S false d d L o0 p0 = qN x S true d d L (σ2 102 4) p2) → ¬ (qisw x p2 (qrw 20) = true ∨ qisw x p2 (qrw 19) = true) → K (some (.inl 1)) σ2) : ∀ (m : Nat) (bo i : Int) (σ : vS) (p : Int), 21 - i < (m : Int) → 0 ≤ i → (0 ≤ bo ∧ bo ≤ 1) → i + 1 ≤ σ 102 4 → cT x p σ → cSf σ0 σ → (o0 + 1 ≤ σ 102 4 ∧ σ 102 4 ≤ 20) → (∀ L : List Int, qN x S false d d L o0 p0 = qN x S true d d L (σ 102 4) p) → zGC E md72 w gr_52_9.1 15 [(0, .inr (.inl 102)), (1, .inr (.inl 7)), (2, .inr (.inl 93)), (3, .inl d), (4, .inl 1), (5, .inl bo), (6, .inl i)] σ K := by
  intro m
  induction m with
  | zero => intro bo i σ p h a c e; omega
  | succ m ih =>
    intro bo i σ p hm hi hbo hio hT hF ho hq
    have hS := cSn_f hS0 hF
    refine zbdC (fun hb => zgoR (⟨rfl, rfl, rfl⟩ : zalt gr_52_9 (gm_52, 8)) (⟨rfl, rfl, rfl⟩ : zalt gr_55_9 (gm_55, 7)) X B zOKR_no i55 (vLA_ok X B) (by decide) [] [(15, [0, 1, 2, 3, 4, 5, 6])] (fun m => Nat.beq m.2.2.2.2.2.2.length 59) (by decide +kernel) ?_)
    refine And.intro (fun (q : 1 = 0) => absurd q (by decide)) (fun _ => ?_)
    refine And.intro (fun (c1 : 20 < i) => ?_) (fun (c2 : i ≤ 20) => ?_)
    · refine And.intro (show 0 ≤ 0 ∧ 0 ≤ 1 from by omega) ?_
      exfalso; omega
    · refine fun (r3 : Int) (t4 : (σ 7 4 = 2 ∧ r3 = σ 7 6) ∨ (¬ σ 7 4 = 2 ∧ r3 = -1)) => ?_
      refine And.intro (fun (c5 : bo = 0) => ?_) (fun (c6 : ¬ bo = 0) => ?_)
      · refine And.intro (fun (c7 : r3 = 20) => ?_) (fun (c8 : ¬ r3 = 20) => ?_)
        · have hj : qisw x p (qrw 20) = true ∨ qisw x p (qrw 19) = true := by
            by_cases e : r3 = 20
            · exact Or.inl ((cT_kws hT (by decide)).mpr (by omega))
            · exact Or.inr ((cT_kws hT (by decide)).mpr (by omega))
          have eJ : ∀ L : List Int, qN x S true d d L (σ 102 4) p = qN x S false d d L (σ 102 4) (qnx x.1 x.2.1 p) := fun L => qN_jn hT hn hj
          have hkj : qkd x.1 x.2.1 x.2.2 p = 1 := hj.elim qisw_k qisw_k
          have hk1 : ¬ qkd x.1 x.2.1 x.2.2 p = 0 ∧ ¬ qkd x.1 x.2.1 x.2.2 p = 4 := by first | exact (cT_nks hT).1 (by omega) | omega
          refine And.intro (cT_nx ⟨hT, hk1⟩) (fun s1 (σ1 : vS) ha1 f1 t1_ => ?_)
          have T1 : cT x (qnx x.1 x.2.1 p) σ1 := cT_next hT hk1 ha1 f1 t1_
          have F1 : cSf σ σ1 := cSf_cg cSf_refl (cg_of f1)
          clear ha1
          have N1 : σ1 102 4 = σ 102 4 := congrFun ((cg_of f1).1 102 (by decide)) 4
          refine ⟨show d = 9 from by omega, x, (qnx x.1 x.2.1 p), S, ⟨T1, cSn_f hS F1, hn⟩, fun k2 p2 o2 (σ2 : vS) hk2 (q2 : (∀ (b : Int) (L : List Int), qN x S false d b L (σ1 102 4) (qnx x.1 x.2.1 p) = (k2, p2, o2))) fl2 g2 => ?_, fun p2 (σ2 : vS) (T2 : cT x p2 σ2) g2 m2 (q2 : (∀ (b : Int) (L : List Int), qN x S false d b L (σ1 102 4) (qnx x.1 x.2.1 p) = qN x S true b b L (σ2 102 4) p2)) => ?_⟩
          · rw [N1] at q2
            have F2 : cSf σ σ2 := cSf_tr F1 g2
            refine And.intro (fun (q : ¬ r3 = 20) => (by exfalso; omega)) (fun _ => ?_)
            refine And.intro (show ((0 : Int) ≤ 20 ∧ 20 ≤ 29) ∧ 0 ≤ 0 ∧ 0 ≤ 6299 from by omega) (fun (σ3 : vS) g3 n3 => ?_)
            have F3 : cSf σ σ3 := cSf_sg F2 g3
            have y3 : σ3 7 4 = σ2 7 4 := congrFun (g3 7 (by decide)) 4
            refine And.intro (show -2147483648 ≤ (i + 1) ∧ (i + 1) ≤ 2147483647 from by omega) ?_
            show zGC E md72 w gr_52_9.1 15 [(0, .inr (.inl 102)), (1, .inr (.inl 7)), (2, .inr (.inl 93)), (3, .inl d), (4, .inl 0), (5, .inl bo), (6, .inl (i + 1))] σ3 K
            exact vt_52z_9 X B i55 (h0 k2 p2 o2 σ3 hk2 (fun L => ((hq L).trans (eJ L)).trans (q2 d L)) (cFl_sg fl2 g3) (cSf_tr hF F3))
          · rw [N1] at q2 m2
            have F2 : cSf σ σ2 := cSf_tr F1 g2
            refine And.intro (fun (q : ¬ r3 = 20) => (by exfalso; omega)) (fun _ => ?_)
            refine And.intro (show ((0 : Int) ≤ 20 ∧ 20 ≤ 29) ∧ 0 ≤ 0 ∧ 0 ≤ 6299 from by omega) (fun (σ3 : vS) g3 n3 => ?_)
            have T3 : cT x p2 σ3 := cT_sg T2 g3
            have F3 : cSf σ σ3 := cSf_sg F2 g3
            have N3 : σ3 102 4 = σ2 102 4 := n3
            have y3 : σ3 7 4 = σ2 7 4 := congrFun (g3 7 (by decide)) 4
            refine And.intro (show -2147483648 ≤ (i + 1) ∧ (i + 1) ≤ 2147483647 from by omega) ?_
            show zGC E md72 w gr_52_9.1 15 [(0, .inr (.inl 102)), (1, .inr (.inl 7)), (2, .inr (.inl 93)), (3, .inl d), (4, .inl 1), (5, .inl bo), (6, .inl (i + 1))] σ3 K
            exact ih bo (i + 1) σ3 p2 (by omega) (by omega) (by omega) (by omega) T3 (cSf_tr hF F3) (by omega) (fun L => by rw [N3]; exact ((hq L).trans (eJ L)).trans (q2 d L))
        · refine And.intro (fun (c9 : r3 = 19) => ?_) (fun (c10 : ¬ r3 = 19) => ?_)
          · have hj : qisw x p (qrw 20) = true ∨ qisw x p (qrw 19) = true := by
              by_cases e : r3 = 20
              · exact Or.inl ((cT_kws hT (by decide)).mpr (by omega))
              · exact Or.inr ((cT_kws hT (by decide)).mpr (by omega))
            have eJ : ∀ L : List Int, qN x S true d d L (σ 102 4) p = qN x S false d d L (σ 102 4) (qnx x.1 x.2.1 p) := fun L => qN_jn hT hn hj
            have hkj : qkd x.1 x.2.1 x.2.2 p = 1 := hj.elim qisw_k qisw_k
            have hk1 : ¬ qkd x.1 x.2.1 x.2.2 p = 0 ∧ ¬ qkd x.1 x.2.1 x.2.2 p = 4 := by first | exact (cT_nks hT).1 (by omega) | omega
            refine And.intro (cT_nx ⟨hT, hk1⟩) (fun s1 (σ1 : vS) ha1 f1 t1_ => ?_)
            have T1 : cT x (qnx x.1 x.2.1 p) σ1 := cT_next hT hk1 ha1 f1 t1_
            have F1 : cSf σ σ1 := cSf_cg cSf_refl (cg_of f1)
            clear ha1
            have N1 : σ1 102 4 = σ 102 4 := congrFun ((cg_of f1).1 102 (by decide)) 4
            refine ⟨show d = 9 from by omega, x, (qnx x.1 x.2.1 p), S, ⟨T1, cSn_f hS F1, hn⟩, fun k2 p2 o2 (σ2 : vS) hk2 (q2 : (∀ (b : Int) (L : List Int), qN x S false d b L (σ1 102 4) (qnx x.1 x.2.1 p) = (k2, p2, o2))) fl2 g2 => ?_, fun p2 (σ2 : vS) (T2 : cT x p2 σ2) g2 m2 (q2 : (∀ (b : Int) (L : List Int), qN x S false d b L (σ1 102 4) (qnx x.1 x.2.1 p) = qN x S true b b L (σ2 102 4) p2)) => ?_⟩
            · rw [N1] at q2
              have F2 : cSf σ σ2 := cSf_tr F1 g2
              refine And.intro (fun _ => ?_) (fun (q : r3 = 20) => (by exfalso; omega))
              refine And.intro (show -2147483648 ≤ (i + 1) ∧ (i + 1) ≤ 2147483647 from by omega) ?_
              show zGC E md72 w gr_52_9.1 15 [(0, .inr (.inl 102)), (1, .inr (.inl 7)), (2, .inr (.inl 93)), (3, .inl d), (4, .inl 0), (5, .inl 1), (6, .inl (i + 1))] σ2 K
              exact vt_52z_9 X B i55 (h0 k2 p2 o2 σ2 hk2 (fun L => ((hq L).trans (eJ L)).trans (q2 d L)) fl2 (cSf_tr hF F2))
            · rw [N1] at q2 m2
              have F2 : cSf σ σ2 := cSf_tr F1 g2
              refine And.intro (fun _ => ?_) (fun (q : r3 = 20) => (by exfalso; omega))
              refine And.intro (show -2147483648 ≤ (i + 1) ∧ (i + 1) ≤ 2147483647 from by omega) ?_
              show zGC E md72 w gr_52_9.1 15 [(0, .inr (.inl 102)), (1, .inr (.inl 7)), (2, .inr (.inl 93)), (3, .inl d), (4, .inl 1), (5, .inl 1), (6, .inl (i + 1))] σ2 K
              exact ih 1 (i + 1) σ2 p2 (by omega) (by omega) (by omega) (by omega) T2 (cSf_tr hF F2) (by omega) (fun L => by exact ((hq L).trans (eJ L)).trans (q2 d L))
          · refine And.intro (show 0 ≤ 1 ∧ 1 ≤ 1 from by omega) ?_
            have hj : ¬ (qisw x p (qrw 20) = true ∨ qisw x p (qrw 19) = true) := fun q => q.elim (fun q => by have := (cT_kws hT (j := 20) (by decide)).mp q; omega) (fun q => by have := (cT_kws hT (j := 19) (by decide)).mp q; omega)
            exact h1 p σ hT (cSf_tr hF cSf_refl) (by omega) (fun L => by exact hq L) hj
      · refine And.intro (fun (c11 : r3 = 20) => ?_) (fun (c12 : ¬ r3 = 20) => ?_)
        · refine And.intro (fun _ => ?_) (fun (q : ¬ r3 = 20) => (by exfalso; omega))
          have hj : qisw x p (qrw 20) = true ∨ qisw x p (qrw 19) = true := by
            by_cases e : r3 = 20
            · exact Or.inl ((cT_kws hT (by decide)).mpr (by omega))
            · exact Or.inr ((cT_kws hT (by decide)).mpr (by omega))
          have eJ : ∀ L : List Int, qN x S true d d L (σ 102 4) p = qN x S false d d L (σ 102 4) (qnx x.1 x.2.1 p) := fun L => qN_jn hT hn hj
          have hkj : qkd x.1 x.2.1 x.2.2 p = 1 := hj.elim qisw_k qisw_k
          have hk1 : ¬ qkd x.1 x.2.1 x.2.2 p = 0 ∧ ¬ qkd x.1 x.2.1 x.2.2 p = 4 := by first | exact (cT_nks hT).1 (by omega) | omega
          refine And.intro (cT_nx ⟨hT, hk1⟩) (fun s1 (σ1 : vS) ha1 f1 t1_ => ?_)
          have T1 : cT x (qnx x.1 x.2.1 p) σ1 := cT_next hT hk1 ha1 f1 t1_
          have F1 : cSf σ σ1 := cSf_cg cSf_refl (cg_of f1)
          clear ha1
          have N1 : σ1 102 4 = σ 102 4 := congrFun ((cg_of f1).1 102 (by decide)) 4
          refine ⟨show d = 9 from by omega, x, (qnx x.1 x.2.1 p), S, ⟨T1, cSn_f hS F1, hn⟩, fun k2 p2 o2 (σ2 : vS) hk2 (q2 : (∀ (b : Int) (L : List Int), qN x S false d b L (σ1 102 4) (qnx x.1 x.2.1 p) = (k2, p2, o2))) fl2 g2 => ?_, fun p2 (σ2 : vS) (T2 : cT x p2 σ2) g2 m2 (q2 : (∀ (b : Int) (L : List Int), qN x S false d b L (σ1 102 4) (qnx x.1 x.2.1 p) = qN x S true b b L (σ2 102 4) p2)) => ?_⟩
          · rw [N1] at q2
            have F2 : cSf σ σ2 := cSf_tr F1 g2
            refine And.intro (fun (q : ¬ r3 = 20) => (by exfalso; omega)) (fun _ => ?_)
            refine And.intro (show ((0 : Int) ≤ 20 ∧ 20 ≤ 29) ∧ 0 ≤ 0 ∧ 0 ≤ 6299 from by omega) (fun (σ3 : vS) g3 n3 => ?_)
            have F3 : cSf σ σ3 := cSf_sg F2 g3
            have y3 : σ3 7 4 = σ2 7 4 := congrFun (g3 7 (by decide)) 4
            refine And.intro (show -2147483648 ≤ (i + 1) ∧ (i + 1) ≤ 2147483647 from by omega) ?_
            show zGC E md72 w gr_52_9.1 15 [(0, .inr (.inl 102)), (1, .inr (.inl 7)), (2, .inr (.inl 93)), (3, .inl d), (4, .inl 0), (5, .inl bo), (6, .inl (i + 1))] σ3 K
            exact vt_52z_9 X B i55 (h0 k2 p2 o2 σ3 hk2 (fun L => ((hq L).trans (eJ L)).trans (q2 d L)) (cFl_sg fl2 g3) (cSf_tr hF F3))
          · rw [N1] at q2 m2
            have F2 : cSf σ σ2 := cSf_tr F1 g2
            refine And.intro (fun (q : ¬ r3 = 20) => (by exfalso; omega)) (fun _ => ?_)
            refine And.intro (show ((0 : Int) ≤ 20 ∧ 20 ≤ 29) ∧ 0 ≤ 0 ∧ 0 ≤ 6299 from by omega) (fun (σ3 : vS) g3 n3 => ?_)
            have T3 : cT x p2 σ3 := cT_sg T2 g3
            have F3 : cSf σ σ3 := cSf_sg F2 g3
            have N3 : σ3 102 4 = σ2 102 4 := n3
            have y3 : σ3 7 4 = σ2 7 4 := congrFun (g3 7 (by decide)) 4
            refine And.intro (show -2147483648 ≤ (i + 1) ∧ (i + 1) ≤ 2147483647 from by omega) ?_
            show zGC E md72 w gr_52_9.1 15 [(0, .inr (.inl 102)), (1, .inr (.inl 7)), (2, .inr (.inl 93)), (3, .inl d), (4, .inl 1), (5, .inl bo), (6, .inl (i + 1))] σ3 K
            exact ih bo (i + 1) σ3 p2 (by omega) (by omega) (by omega) (by omega) T3 (cSf_tr hF F3) (by omega) (fun L => by rw [N3]; exact ((hq L).trans (eJ L)).trans (q2 d L))
        · refine And.intro (show ((0 : Int) ≤ 19 ∧ 19 ≤ 29) ∧ 0 ≤ 0 ∧ 0 ≤ 6299 from by omega) (fun (σ1 : vS) g1 n1 => ?_)
          have T1 : cT x p σ1 := cT_sg hT g1
          have F1 : cSf σ σ1 := cSf_sg cSf_refl g1
          have N1 : σ1 102 4 = σ 102 4 := n1
          have y1 : σ1 7 4 = σ 7 4 := congrFun (g1 7 (by decide)) 4
          refine And.intro (fun (c13 : r3 = 20) => ?_) (fun (c14 : ¬ r3 = 20) => ?_)
          · have hj : qisw x p (qrw 20) = true ∨ qisw x p (qrw 19) = true := by
              by_cases e : r3 = 20
              · exact Or.inl ((cT_kws hT (by decide)).mpr (by omega))
              · exact Or.inr ((cT_kws hT (by decide)).mpr (by omega))
            have eJ : ∀ L : List Int, qN x S true d d L (σ 102 4) p = qN x S false d d L (σ 102 4) (qnx x.1 x.2.1 p) := fun L => qN_jn hT hn hj
            have hkj : qkd x.1 x.2.1 x.2.2 p = 1 := hj.elim qisw_k qisw_k
            have hk2 : ¬ qkd x.1 x.2.1 x.2.2 p = 0 ∧ ¬ qkd x.1 x.2.1 x.2.2 p = 4 := by first | exact (cT_nks T1).1 (by omega) | omega
            refine And.intro (cT_nx ⟨T1, hk2⟩) (fun s2 (σ2 : vS) ha2 f2 t2_ => ?_)
            have T2 : cT x (qnx x.1 x.2.1 p) σ2 := cT_next T1 hk2 ha2 f2 t2_
            have F2 : cSf σ σ2 := cSf_cg F1 (cg_of f2)
            clear ha2
            have N2 : σ2 102 4 = σ 102 4 := (congrFun ((cg_of f2).1 102 (by decide)) 4).trans N1
            refine ⟨show d = 9 from by omega, x, (qnx x.1 x.2.1 p), S, ⟨T2, cSn_f hS F2, hn⟩, fun k3 p3 o3 (σ3 : vS) hk3 (q3 : (∀ (b : Int) (L : List Int), qN x S false d b L (σ2 102 4) (qnx x.1 x.2.1 p) = (k3, p3, o3))) fl3 g3 => ?_, fun p3 (σ3 : vS) (T3 : cT x p3 σ3) g3 m3 (q3 : (∀ (b : Int) (L : List Int), qN x S false d b L (σ2 102 4) (qnx x.1 x.2.1 p) = qN x S true b b L (σ3 102 4) p3)) => ?_⟩
            · rw [N2] at q3
              have F3 : cSf σ σ3 := cSf_tr F2 g3
              refine And.intro (fun (q : ¬ r3 = 20) => (by exfalso; omega)) (fun _ => ?_)
              refine And.intro (show ((0 : Int) ≤ 20 ∧ 20 ≤ 29) ∧ 0 ≤ 0 ∧ 0 ≤ 6299 from by omega) (fun (σ4 : vS) g4 n4 => ?_)
              have F4 : cSf σ σ4 := cSf_sg F3 g4
              have y4 : σ4 7 4 = σ3 7 4 := congrFun (g4 7 (by decide)) 4
              refine And.intro (show -2147483648 ≤ (i + 1) ∧ (i + 1) ≤ 2147483647 from by omega) ?_
              show zGC E md72 w gr_52_9.1 15 [(0, .inr (.inl 102)), (1, .inr (.inl 7)), (2, .inr (.inl 93)), (3, .inl d), (4, .inl 0), (5, .inl 0), (6, .inl (i + 1))] σ4 K
              exact vt_52z_9 X B i55 (h0 k3 p3 o3 σ4 hk3 (fun L => ((hq L).trans (eJ L)).trans (q3 d L)) (cFl_sg fl3 g4) (cSf_tr hF F4))
            · rw [N2] at q3 m3
              have F3 : cSf σ σ3 := cSf_tr F2 g3
              refine And.intro (fun (q : ¬ r3 = 20) => (by exfalso; omega)) (fun _ => ?_)
              refine And.intro (show ((0 : Int) ≤ 20 ∧ 20 ≤ 29) ∧ 0 ≤ 0 ∧ 0 ≤ 6299 from by omega) (fun (σ4 : vS) g4 n4 => ?_)
              have T4 : cT x p3 σ4 := cT_sg T3 g4
              have F4 : cSf σ σ4 := cSf_sg F3 g4
              have N4 : σ4 102 4 = σ3 102 4 := n4
              have y4 : σ4 7 4 = σ3 7 4 := congrFun (g4 7 (by decide)) 4
              refine And.intro (show -2147483648 ≤ (i + 1) ∧ (i + 1) ≤ 2147483647 from by omega) ?_
              show zGC E md72 w gr_52_9.1 15 [(0, .inr (.inl 102)), (1, .inr (.inl 7)), (2, .inr (.inl 93)), (3, .inl d), (4, .inl 1), (5, .inl 0), (6, .inl (i + 1))] σ4 K
              exact ih 0 (i + 1) σ4 p3 (by omega) (by omega) (by omega) (by omega) T4 (cSf_tr hF F4) (by omega) (fun L => by rw [N4]; exact ((hq L).trans (eJ L)).trans (q3 d L))
          · refine And.intro (fun (c15 : r3 = 19) => ?_) (fun (c16 : ¬ r3 = 19) => ?_)
            · have hj : qisw x p (qrw 20) = true ∨ qisw x p (qrw 19) = true := by
                by_cases e : r3 = 20
                · exact Or.inl ((cT_kws hT (by decide)).mpr (by omega))
                · exact Or.inr ((cT_kws hT (by decide)).mpr (by omega))
              have eJ : ∀ L : List Int, qN x S true d d L (σ 102 4) p = qN x S false d d L (σ 102 4) (qnx x.1 x.2.1 p) := fun L => qN_jn hT hn hj
              have hkj : qkd x.1 x.2.1 x.2.2 p = 1 := hj.elim qisw_k qisw_k
              have hk2 : ¬ qkd x.1 x.2.1 x.2.2 p = 0 ∧ ¬ qkd x.1 x.2.1 x.2.2 p = 4 := by first | exact (cT_nks T1).1 (by omega) | omega
              refine And.intro (cT_nx ⟨T1, hk2⟩) (fun s2 (σ2 : vS) ha2 f2 t2_ => ?_)
              have T2 : cT x (qnx x.1 x.2.1 p) σ2 := cT_next T1 hk2 ha2 f2 t2_
              have F2 : cSf σ σ2 := cSf_cg F1 (cg_of f2)
              clear ha2
              have N2 : σ2 102 4 = σ 102 4 := (congrFun ((cg_of f2).1 102 (by decide)) 4).trans N1
              refine ⟨show d = 9 from by omega, x, (qnx x.1 x.2.1 p), S, ⟨T2, cSn_f hS F2, hn⟩, fun k3 p3 o3 (σ3 : vS) hk3 (q3 : (∀ (b : Int) (L : List Int), qN x S false d b L (σ2 102 4) (qnx x.1 x.2.1 p) = (k3, p3, o3))) fl3 g3 => ?_, fun p3 (σ3 : vS) (T3 : cT x p3 σ3) g3 m3 (q3 : (∀ (b : Int) (L : List Int), qN x S false d b L (σ2 102 4) (qnx x.1 x.2.1 p) = qN x S true b b L (σ3 102 4) p3)) => ?_⟩
              · rw [N2] at q3
                have F3 : cSf σ σ3 := cSf_tr F2 g3
                refine And.intro (fun _ => ?_) (fun (q : r3 = 20) => (by exfalso; omega))
                refine And.intro (show -2147483648 ≤ (i + 1) ∧ (i + 1) ≤ 2147483647 from by omega) ?_
                show zGC E md72 w gr_52_9.1 15 [(0, .inr (.inl 102)), (1, .inr (.inl 7)), (2, .inr (.inl 93)), (3, .inl d), (4, .inl 0), (5, .inl 1), (6, .inl (i + 1))] σ3 K
                exact vt_52z_9 X B i55 (h0 k3 p3 o3 σ3 hk3 (fun L => ((hq L).trans (eJ L)).trans (q3 d L)) fl3 (cSf_tr hF F3))
              · rw [N2] at q3 m3
                have F3 : cSf σ σ3 := cSf_tr F2 g3
                refine And.intro (fun _ => ?_) (fun (q : r3 = 20) => (by exfalso; omega))
                refine And.intro (show -2147483648 ≤ (i + 1) ∧ (i + 1) ≤ 2147483647 from by omega) ?_
                show zGC E md72 w gr_52_9.1 15 [(0, .inr (.inl 102)), (1, .inr (.inl 7)), (2, .inr (.inl 93)), (3, .inl d), (4, .inl 1), (5, .inl 1), (6, .inl (i + 1))] σ3 K
                exact ih 1 (i + 1) σ3 p3 (by omega) (by omega) (by omega) (by omega) T3 (cSf_tr hF F3) (by omega) (fun L => by exact ((hq L).trans (eJ L)).trans (q3 d L))
            · refine And.intro (show 0 ≤ 1 ∧ 1 ≤ 1 from by omega) ?_
              have hj : ¬ (qisw x p (qrw 20) = true ∨ qisw x p (qrw 19) = true) := fun q => q.elim (fun q => by have := (cT_kws hT (j := 20) (by decide)).mp q; omega) (fun q => by have := (cT_kws hT (j := 19) (by decide)).mp q; omega)
              exact h1 p σ1 T1 (cSf_tr hF F1) (by omega) (fun L => by rw [N1]; exact hq L) hj
set_option maxRecDepth 16384 in
theorem vt_52_9 (X : zX gKX E) (B : zB E) (i55 : zOKR E md72 w gr_55_9 (vt55 9)) : zOKR E md72 w gr_52_9 (vt52 9) := by
  intro vs σ K h
  unfold vt52 at h
  split at h
  · rename_i d
    obtain ⟨hd, x, p, S, ⟨hT, hS, hn⟩, h0, h1⟩ := h
    show zGC E md72 w gr_52_9.1 0 [(0, .inr (.inl 102)), (1, .inr (.inl 7)), (2, .inr (.inl 93)), (3, .inl d)] σ K
    refine zbdC (fun hb0 => ?_)
    have b4 : 0 ≤ σ 102 4 ∧ σ 102 4 ≤ 20 := zfC hb0 (t := 102) (f := 4) (by decide +kernel)
    refine zbdC (fun hb => zgoR (⟨rfl, rfl, rfl⟩ : zalt gr_52_9 (gm_52, 8)) (⟨rfl, rfl, rfl⟩ : zalt gr_55_9 (gm_55, 7)) X B zOKR_no i55 (vLA_ok X B) (by decide) [] [(15, [0, 1, 2, 3, 4, 5, 6])] (fun m => Nat.beq m.2.2.2.2.2.2.length 59) (by decide +kernel) ?_)
    refine ⟨show d = 9 from by omega, x, p, S, ⟨hT, cSn_f hS cSf_refl, hn⟩, fun k1 p1 o1 (σ1 : vS) hk1 (q1 : (∀ (b : Int) (L : List Int), qN x S false d b L (σ 102 4) p = (k1, p1, o1))) fl1 g1 => ?_, fun p1 (σ1 : vS) (T1 : cT x p1 σ1) g1 m1 (q1 : (∀ (b : Int) (L : List Int), qN x S false d b L (σ 102 4) p = qN x S true b b L (σ1 102 4) p1)) => ?_⟩
    · have F1 : cSf σ σ1 := cSf_tr cSf_refl g1
      show zGC E md72 w gr_52_9.1 15 [(0, .inr (.inl 102)), (1, .inr (.inl 7)), (2, .inr (.inl 93)), (3, .inl d), (4, .inl 0), (5, .inl 0), (6, .inl 0)] σ1 K
      exact vt_52z_9 X B i55 (h0 k1 p1 o1 σ1 hk1 (fun L => q1 d L) fl1 F1)
    · have F1 : cSf σ σ1 := cSf_tr cSf_refl g1
      show zGC E md72 w gr_52_9.1 15 [(0, .inr (.inl 102)), (1, .inr (.inl 7)), (2, .inr (.inl 93)), (3, .inl d), (4, .inl 1), (5, .inl 0), (6, .inl 0)] σ1 K
      exact vt_52l_9 X B i55 hd hS hn h0 h1 22 0 0 σ1 p1 (by omega) (by omega) (by omega) (by omega) T1 F1 (by omega) (fun L => q1 d L)
  · exact absurd h id
set_option maxRecDepth 16384 in
theorem vt_55_8 (X : zX gKX E) (B : zB E) (i55 : zOKR E md72 w gr_55_9 (vt55 9)) (i52 : zOKR E md72 w gr_52_9 (vt52 9)) : zOKR E md72 w gr_55_8 (vt55 8) := by
  intro vs σ K h
  unfold vt55 at h
  split at h
  · rename_i d
    obtain ⟨hd, x, p, S, ⟨hT, hS, hn⟩, h0, h1⟩ := h
    show zGC E md72 w gr_55_8.1 0 [(0, .inr (.inl 102)), (1, .inr (.inl 7)), (2, .inr (.inl 93)), (3, .inl d)] σ K
    refine zbdC (fun hb => zgoR (⟨rfl, rfl, rfl⟩ : zalt gr_52_9 (gm_52, 8)) (⟨rfl, rfl, rfl⟩ : zalt gr_55_9 (gm_55, 7)) X B i52 i55 (vLA_ok X B) (by decide) [] [] (fun m => false) (by decide +kernel) ?_)
    refine fun z (t1 : (z = 1 ∧ σ 7 4 = 5 ∧ σ 7 6 = 40) ∨ (z = 0 ∧ ¬ (σ 7 4 = 5 ∧ σ 7 6 = 40))) => ?_
    rcases t1 with ⟨rfl, t1⟩ | ⟨rfl, t1⟩
    · refine fun (r2 : Int) (t3 : (σ 7 4 = 2 ∧ r2 = σ 7 6) ∨ (¬ σ 7 4 = 2 ∧ r2 = -1)) => ?_
      refine And.intro (fun _ => ?_) (fun (q : 1 = 0) => absurd q (by decide))
      have f4 : 0 ≤ σ 102 4 ∧ σ 102 4 ≤ 20 := zfC hb (t := 102) (f := 4) (by decide +kernel)
      refine And.intro (fun (c5 : 20 ≤ (σ 102 4)) => ?_) (fun (c6 : (σ 102 4) < 20) => ?_)
      · refine And.intro (cT_fl hT (by omega)) ?_
        refine And.intro (show 0 ≤ 0 ∧ 0 ≤ 1 from by omega) ?_
        have hB : ¬ qbeg x p = -1 := by have := (cT_bg hT).1 t1; omega
        exact h0 4 p (σ 102 4) _ (by decide) (fun b L => qN_of (qop_4 hB (by omega)) (by decide)) (cFl_of hT) (cSf_cg cSf_refl cg_fl)
      · refine And.intro (fun (c7 : d ≤ 8) => ?_) (fun (c8 : 8 < d) => ?_)
        · refine And.intro (show -2147483648 ≤ ((σ 102 4) + 1) ∧ ((σ 102 4) + 1) ≤ 2147483647 from by omega) ?_
          refine And.intro (show 0 ≤ ((σ 102 4) + 1) ∧ ((σ 102 4) + 1) ≤ 20 from by omega) ?_
          have hlim : ¬ (σ 102 4 = 20 ∨ 8 < d) := by omega
          have hB : qbeg x p = 9 := (cT_bg hT).1 t1
          have hon : σ 102 4 + 1 ≤ 20 := by omega
          have hk1 : ¬ qkd x.1 x.2.1 x.2.2 p = 0 ∧ ¬ qkd x.1 x.2.1 x.2.2 p = 4 := by first | exact (cT_nks hT).1 (by omega) | omega
          refine And.intro (cT_nx ⟨(cT_t hT (by decide)), hk1⟩) (fun s1 (σ1 : vS) ha1 f1 t1_ => ?_)
          have T1 : cT x (qnx x.1 x.2.1 p) σ1 := cT_next (cT_t hT (by decide)) hk1 ha1 f1 t1_
          have F1 : cSf σ σ1 := cSf_cg (cSf_up (by decide) cSf_refl) (cg_of f1)
          clear ha1
          clear t3
          have N1 : σ1 102 4 = (σ 102 4) + 1 := (congrFun ((cg_of f1).1 102 (by decide)) 4).trans vup_eq
          refine And.intro (fun (q : 1 = 0) => absurd q (by decide)) (fun _ => ?_)
          refine And.intro (show -2147483648 ≤ (d + 1) ∧ (d + 1) ≤ 2147483647 from by omega) ?_
          have eA : ∀ (b : Int) (L : List Int), qN x S false d b L (σ 102 4) p = qN x S false (d + 1) (d + 1) (b :: L) (σ 102 4 + 1) (qnx x.1 x.2.1 p) := fun b L => qN_og hT hn (qop_9 hB hlim)
          refine ⟨show d + 1 = 9 from by omega, x, (qnx x.1 x.2.1 p), S, ⟨T1, cSn_f hS F1, hn⟩, fun k2 p2 o2 (σ2 : vS) hk2 (q2 : (∀ L : List Int, qN x S false (d + 1) (d + 1) L (σ1 102 4) (qnx x.1 x.2.1 p) = (k2, p2, o2))) fl2 g2 => ?_, fun p2 (σ2 : vS) (T2 : cT x p2 σ2) g2 m2 (q2 : (∀ L : List Int, qN x S false (d + 1) (d + 1) L (σ1 102 4) (qnx x.1 x.2.1 p) = qN x S true (d + 1) (d + 1) L (σ2 102 4) p2)) hj2 => ?_⟩
          · rw [N1] at q2
            have F2 : cSf σ σ2 := cSf_tr F1 g2
            refine And.intro (fun _ => ?_) (fun (q : ¬ 0 = 0) => absurd q (by decide))
            refine And.intro (show 0 ≤ 0 ∧ 0 ≤ 1 from by omega) ?_
            exact h0 k2 p2 o2 σ2 hk2 (fun b L => (eA b L).trans (q2 (b :: L))) fl2 F2
          · rw [N1] at q2 m2
            have F2 : cSf σ σ2 := cSf_tr F1 g2
            refine And.intro (fun (q : 1 = 0) => absurd q (by decide)) (fun _ => ?_)
            refine ⟨x, p2, T2, fun e3 (σ3 : vS) fl3 g3 => ?_, fun e3 (σ3 : vS) T3 g3 => ?_⟩
            · have F3 : cSf σ σ3 := cSf_cg F2 g3
              refine And.intro (fun _ => ?_) (fun (q : ¬ 0 = 0) => absurd q (by decide))
              refine And.intro (show 0 ≤ 0 ∧ 0 ≤ 1 from by omega) ?_
              exact h0 1 p2 (σ2 102 4) σ3 (by decide) (fun b L => ((eA b L).trans (q2 (b :: L))).trans (qN_nc hj2 e3)) fl3 F3
            · have F3 : cSf σ σ3 := cSf_cg F2 g3
              have N3 : σ3 102 4 = σ2 102 4 := congrFun (g3.1 102 (by decide)) 4
              refine And.intro (fun (q : 1 = 0) => absurd q (by decide)) (fun _ => ?_)
              refine And.intro (show 0 ≤ 1 ∧ 1 ≤ 1 from by omega) ?_
              exact h1 (qnx x.1 x.2.1 p2) σ3 T3 F3 (by omega) (fun b L => by rw [N3]; exact ((eA b L).trans (q2 (b :: L))).trans (qN_cl T2 hn hj2 e3))
        · refine And.intro (cT_fl hT (by omega)) ?_
          refine And.intro (show 0 ≤ 0 ∧ 0 ≤ 1 from by omega) ?_
          have hB : ¬ qbeg x p = -1 := by have := (cT_bg hT).1 t1; omega
          exact h0 4 p (σ 102 4) _ (by decide) (fun b L => qN_of (qop_4 hB (by omega)) (by decide)) (cFl_of hT) (cSf_cg cSf_refl cg_fl)
    · refine fun (r9 : Int) (t10 : (σ 7 4 = 2 ∧ r9 = σ 7 6) ∨ (¬ σ 7 4 = 2 ∧ r9 = -1)) => ?_
      refine And.intro (fun (q : ¬ 0 = 0) => absurd q (by decide)) (fun _ => ?_)
      refine And.intro (fun (c11 : r9 < 21) => ?_) (fun (c12 : 21 ≤ r9) => ?_)
      · refine And.intro (cT_fl hT (by omega)) ?_
        refine And.intro (show 0 ≤ 0 ∧ 0 ≤ 1 from by omega) ?_
        have hB : qbeg x p = -1 := (cT_bg hT).2.2.2 t1 (by omega)
        exact h0 1 p (σ 102 4) _ (by decide) (fun b L => qN_of (qop_1 hB) (by decide)) (cFl_of hT) (cSf_cg cSf_refl cg_fl)
      · refine And.intro (fun (c13 : r9 ≤ 29) => ?_) (fun (c14 : 29 < r9) => ?_)
        · have f15 : 0 ≤ σ 102 4 ∧ σ 102 4 ≤ 20 := zfC hb (t := 102) (f := 4) (by decide +kernel)
          refine And.intro (fun (c16 : 20 ≤ (σ 102 4)) => ?_) (fun (c17 : (σ 102 4) < 20) => ?_)
          · refine And.intro (cT_fl hT (by omega)) ?_
            refine And.intro (show 0 ≤ 0 ∧ 0 ≤ 1 from by omega) ?_
            have hB : ¬ qbeg x p = -1 := by
              by_cases e : σ 7 6 = 21
              · have := (cT_bg hT).2.1 (by omega); omega
              · have := (cT_bg hT).2.2.1 (by omega); omega
            exact h0 4 p (σ 102 4) _ (by decide) (fun b L => qN_of (qop_4 hB (by omega)) (by decide)) (cFl_of hT) (cSf_cg cSf_refl cg_fl)
          · refine And.intro (fun (c18 : d ≤ 8) => ?_) (fun (c19 : 8 < d) => ?_)
            · refine And.intro (show -2147483648 ≤ ((σ 102 4) + 1) ∧ ((σ 102 4) + 1) ≤ 2147483647 from by omega) ?_
              refine And.intro (show 0 ≤ ((σ 102 4) + 1) ∧ ((σ 102 4) + 1) ≤ 20 from by omega) ?_
              have hlim : ¬ (σ 102 4 = 20 ∨ 8 < d) := by omega
              have hon : σ 102 4 + 1 ≤ 20 := by omega
              have hr : σ 7 4 = 2 ∧ r9 = σ 7 6 := by omega
              have hk1 : ¬ qkd x.1 x.2.1 x.2.2 p = 0 ∧ ¬ qkd x.1 x.2.1 x.2.2 p = 4 := by first | exact (cT_nks hT).1 (by omega) | omega
              refine And.intro (cT_nx ⟨(cT_t hT (by decide)), hk1⟩) (fun s1 (σ1 : vS) ha1 f1 t1_ => ?_)
              have T1 : cT x (qnx x.1 x.2.1 p) σ1 := cT_next (cT_t hT (by decide)) hk1 ha1 f1 t1_
              have F1 : cSf σ σ1 := cSf_cg (cSf_up (by decide) cSf_refl) (cg_of f1)
              clear ha1
              clear t10 t1
              have N1 : σ1 102 4 = (σ 102 4) + 1 := (congrFun ((cg_of f1).1 102 (by decide)) 4).trans vup_eq
              refine And.intro (fun _ => ?_) (fun (q : ¬ 0 = 0) => absurd q (by decide))
              refine And.intro (And.intro (fun (c20 : r9 = 21) => ?_) (And.intro (fun (c21 : r9 = 22) => ?_) (And.intro (fun (c22 : r9 = 23) => ?_) (And.intro (fun (c23 : r9 = 24) => ?_) (And.intro (fun (c24 : r9 = 25) => ?_) (trivial)))))) (fun (c25 : r9 < 21 ∨ 25 < r9) => ?_)
              · refine And.intro (show -2147483648 ≤ (d + 1) ∧ (d + 1) ≤ 2147483647 from by omega) ?_
                have hB : qbeg x p = 8 := (cT_bg hT).2.1 (by omega)
                have eA : ∀ (b : Int) (L : List Int), qN x S false d b L (σ 102 4) p = qN x S false (d + 1) b L (σ 102 4 + 1) (qnx x.1 x.2.1 p) := fun b L => qN_og hT hn (qop_8 hB hlim)
                refine ⟨show d + 1 = 9 from by omega, x, (qnx x.1 x.2.1 p), S, ⟨T1, cSn_f hS F1, hn⟩, fun k2 p2 o2 (σ2 : vS) hk2 (q2 : (∀ (b : Int) (L : List Int), qN x S false (d + 1) b L (σ1 102 4) (qnx x.1 x.2.1 p) = (k2, p2, o2))) fl2 g2 => ?_, fun p2 (σ2 : vS) (T2 : cT x p2 σ2) g2 m2 (q2 : (∀ (b : Int) (L : List Int), qN x S false (d + 1) b L (σ1 102 4) (qnx x.1 x.2.1 p) = qN x S true b b L (σ2 102 4) p2)) => ?_⟩
                · rw [N1] at q2
                  have F2 : cSf σ σ2 := cSf_tr F1 g2
                  refine And.intro (show ((0 : Int) ≤ 21 ∧ 21 ≤ 29) ∧ 0 ≤ 0 ∧ 0 ≤ 6299 from by omega) (fun (σ3 : vS) g3 n3 => ?_)
                  have F3 : cSf σ σ3 := cSf_sg F2 g3
                  have y3 : σ3 7 4 = σ2 7 4 := congrFun (g3 7 (by decide)) 4
                  refine And.intro (show 0 ≤ 0 ∧ 0 ≤ 1 from by omega) ?_
                  exact h0 k2 p2 o2 σ3 hk2 (fun b L => (eA b L).trans (q2 b L)) (cFl_sg fl2 g3) F3
                · rw [N1] at q2 m2
                  have F2 : cSf σ σ2 := cSf_tr F1 g2
                  refine And.intro (show ((0 : Int) ≤ 21 ∧ 21 ≤ 29) ∧ 0 ≤ 0 ∧ 0 ≤ 6299 from by omega) (fun (σ3 : vS) g3 n3 => ?_)
                  have T3 : cT x p2 σ3 := cT_sg T2 g3
                  have F3 : cSf σ σ3 := cSf_sg F2 g3
                  have N3 : σ3 102 4 = σ2 102 4 := n3
                  have y3 : σ3 7 4 = σ2 7 4 := congrFun (g3 7 (by decide)) 4
                  refine And.intro (show 0 ≤ 1 ∧ 1 ≤ 1 from by omega) ?_
                  exact h1 p2 σ3 T3 F3 (by omega) (fun b L => by rw [N3]; exact (eA b L).trans (q2 b L))
              · refine And.intro (show ((0 : Int) ≤ r9 ∧ r9 ≤ 29) ∧ 0 ≤ 0 ∧ 0 ≤ 6299 from by omega) (fun (σ2 : vS) g2 n2 => ?_)
                have T2 : cT x (qnx x.1 x.2.1 p) σ2 := cT_sg T1 g2
                have F2 : cSf σ σ2 := cSf_sg F1 g2
                have N2 : σ2 102 4 = (σ 102 4) + 1 := n2.trans N1
                have y2 : σ2 7 4 = σ1 7 4 := congrFun (g2 7 (by decide)) 4
                refine And.intro (show 0 ≤ 1 ∧ 1 ≤ 1 from by omega) ?_
                have hB := (cT_bg hT).2.2.1 (by omega)
                exact h1 (qnx x.1 x.2.1 p) σ2 T2 F2 ⟨by rw [N2]; exact Int.le_refl _, by rw [N2]; exact hon⟩ (fun b L => by rw [N2]; exact (qN_og hT hn (qop_l (by omega) hlim)).trans qN_d)
              · refine And.intro (show ((0 : Int) ≤ r9 ∧ r9 ≤ 29) ∧ 0 ≤ 0 ∧ 0 ≤ 6299 from by omega) (fun (σ2 : vS) g2 n2 => ?_)
                have T2 : cT x (qnx x.1 x.2.1 p) σ2 := cT_sg T1 g2
                have F2 : cSf σ σ2 := cSf_sg F1 g2
                have N2 : σ2 102 4 = (σ 102 4) + 1 := n2.trans N1
                have y2 : σ2 7 4 = σ1 7 4 := congrFun (g2 7 (by decide)) 4
                refine And.intro (show 0 ≤ 1 ∧ 1 ≤ 1 from by omega) ?_
                have hB := (cT_bg hT).2.2.1 (by omega)
                exact h1 (qnx x.1 x.2.1 p) σ2 T2 F2 ⟨by rw [N2]; exact Int.le_refl _, by rw [N2]; exact hon⟩ (fun b L => by rw [N2]; exact (qN_og hT hn (qop_l (by omega) hlim)).trans qN_d)
              · have hB : qbeg x p = 2 := by have := (cT_bg hT).2.2.1 (by omega); omega
                obtain ⟨r1, r2, r3⟩ := qof_b (x := x) (S := S) (p := (qnx x.1 x.2.1 p)) hS.2 (k := 2) (by omega)
                have eM : ∀ (b : Int) (L : List Int), qop x S.2.2 (S.2.1 0) (S.2.1 1) d b L (σ 102 4) p = if (qofn x S.2.2 (S.2.1 0) (S.2.1 1) 2 (qnx x.1 x.2.1 p)) < 0 then (-(qofn x S.2.2 (S.2.1 0) (S.2.1 1) 2 (qnx x.1 x.2.1 p)), ((qnx x.1 x.2.1 p), true, d, b, L, σ 102 4 + 1)) else (0, (qnx x.1 x.2.1 (qnx x.1 x.2.1 p), true, d, b, L, σ 102 4 + 1)) := fun b L => by
                  have e := qop_m (x := x) (nm := S.2.2) (mh := S.2.1 0) (mo := S.2.1 1) (d := d) (b := b) (L := L) (o := σ 102 4) (p := p) (by omega) hlim
                  rw [hB] at e
                  exact e
                refine ⟨by omega, x, ((qnx x.1 x.2.1 p), S.2), S.2.1 1, T1, (cSn_f hS F1).1, hS.2, fun q => absurd q (by decide), fun _ => ⟨rfl, fun c2 (σ2 : vS) fl2 g2 => ?_, fun c2 => ?_⟩, fun q => absurd q (by decide)⟩
                · clear r3
                  have c2 : (qofn x S.2.2 (S.2.1 0) (S.2.1 1) 2 (qnx x.1 x.2.1 p)) < 0 := c2
                  have fl2 : cFl x (-(qofn x S.2.2 (S.2.1 0) (S.2.1 1) 2 (qnx x.1 x.2.1 p))) (qnx x.1 x.2.1 p) σ2 := fl2
                  have F2 : cSf σ σ2 := cSf_cg F1 g2
                  refine And.intro (fun (q : ¬ (-1) = (-1)) => absurd q (by decide)) (fun _ => ?_)
                  refine And.intro (show 0 ≤ 0 ∧ 0 ≤ 1 from by omega) ?_
                  refine And.intro (show 0 ≤ 0 ∧ 0 ≤ 1 from by omega) ?_
                  exact h0 (-(qofn x S.2.2 (S.2.1 0) (S.2.1 1) 2 (qnx x.1 x.2.1 p))) (qnx x.1 x.2.1 p) (σ 102 4 + 1) σ2 (by omega) (fun b L => qN_of ((eM b L).trans (if_pos c2)) (by omega)) fl2 F2
                · have c2 : 0 ≤ (qofn x S.2.2 (S.2.1 0) (S.2.1 1) 2 (qnx x.1 x.2.1 p)) := c2
                  have kq2 := r3 c2
                  clear r3
                  have eR26 : qlk x 6 (S.2.1 1) ((qnx x.1 x.2.1 p), S.2) = (qofn x S.2.2 (S.2.1 0) (S.2.1 1) 2 (qnx x.1 x.2.1 p)) := rfl
                  rw [eR26]
                  refine And.intro (fun (c27 : ¬ ((qofn x S.2.2 (S.2.1 0) (S.2.1 1) 2 (qnx x.1 x.2.1 p))) = (-1)) => ?_) (fun (c28 : ((qofn x S.2.2 (S.2.1 0) (S.2.1 1) 2 (qnx x.1 x.2.1 p))) = (-1)) => ?_)
                  · refine And.intro (show ((0 : Int) ≤ r9 ∧ r9 ≤ 29) ∧ 0 ≤ ((qofn x S.2.2 (S.2.1 0) (S.2.1 1) 2 (qnx x.1 x.2.1 p))) ∧ ((qofn x S.2.2 (S.2.1 0) (S.2.1 1) 2 (qnx x.1 x.2.1 p))) ≤ 6299 from by omega) (fun (σ2 : vS) g2 n2 => ?_)
                    have T2 : cT x (qnx x.1 x.2.1 p) σ2 := cT_sg T1 g2
                    have F2 : cSf σ σ2 := cSf_sg F1 g2
                    have N2 : σ2 102 4 = (σ 102 4) + 1 := n2.trans N1
                    have y2 : σ2 7 4 = σ1 7 4 := congrFun (g2 7 (by decide)) 4
                    have hk3 : ¬ qkd x.1 x.2.1 x.2.2 (qnx x.1 x.2.1 p) = 0 ∧ ¬ qkd x.1 x.2.1 x.2.2 (qnx x.1 x.2.1 p) = 4 := by first | exact (cT_nks T2).1 (by omega) | omega
                    refine And.intro (cT_nx ⟨T2, hk3⟩) (fun s3 (σ3 : vS) ha3 f3 t3_ => ?_)
                    have T3 : cT x (qnx x.1 x.2.1 (qnx x.1 x.2.1 p)) σ3 := cT_next T2 hk3 ha3 f3 t3_
                    have F3 : cSf σ σ3 := cSf_cg F2 (cg_of f3)
                    clear ha3
                    have N3 : σ3 102 4 = (σ 102 4) + 1 := (congrFun ((cg_of f3).1 102 (by decide)) 4).trans N2
                    refine And.intro (show 0 ≤ 1 ∧ 1 ≤ 1 from by omega) ?_
                    refine And.intro (show 0 ≤ 1 ∧ 1 ≤ 1 from by omega) ?_
                    exact h1 (qnx x.1 x.2.1 (qnx x.1 x.2.1 p)) σ3 T3 F3 ⟨by rw [N3]; exact Int.le_refl _, by rw [N3]; exact hon⟩ (fun b L => by rw [N3]; exact (qN_og hT hn ((eM b L).trans (if_neg (by omega)))).trans qN_d)
                  · refine And.intro (show 0 ≤ 0 ∧ 0 ≤ 1 from by omega) ?_
                    refine And.intro (show 0 ≤ 0 ∧ 0 ≤ 1 from by omega) ?_
                    exfalso; omega
              · have hB : qbeg x p = 3 := by have := (cT_bg hT).2.2.1 (by omega); omega
                obtain ⟨r1, r2, r3⟩ := qof_b (x := x) (S := S) (p := (qnx x.1 x.2.1 p)) hS.2 (k := 3) (by omega)
                have eM : ∀ (b : Int) (L : List Int), qop x S.2.2 (S.2.1 0) (S.2.1 1) d b L (σ 102 4) p = if (qofn x S.2.2 (S.2.1 0) (S.2.1 1) 3 (qnx x.1 x.2.1 p)) < 0 then (-(qofn x S.2.2 (S.2.1 0) (S.2.1 1) 3 (qnx x.1 x.2.1 p)), ((qnx x.1 x.2.1 p), true, d, b, L, σ 102 4 + 1)) else (0, (qnx x.1 x.2.1 (qnx x.1 x.2.1 p), true, d, b, L, σ 102 4 + 1)) := fun b L => by
                  have e := qop_m (x := x) (nm := S.2.2) (mh := S.2.1 0) (mo := S.2.1 1) (d := d) (b := b) (L := L) (o := σ 102 4) (p := p) (by omega) hlim
                  rw [hB] at e
                  exact e
                refine ⟨by omega, x, ((qnx x.1 x.2.1 p), S.2), S.2.1 0, T1, (cSn_f hS F1).1, hS.2, fun _ => ⟨rfl, fun c2 (σ2 : vS) fl2 g2 => ?_, fun c2 => ?_⟩, fun q => absurd q (by decide), fun q => absurd q (by decide)⟩
                · clear r3
                  have c2 : (qofn x S.2.2 (S.2.1 0) (S.2.1 1) 3 (qnx x.1 x.2.1 p)) < 0 := c2
                  have fl2 : cFl x (-(qofn x S.2.2 (S.2.1 0) (S.2.1 1) 3 (qnx x.1 x.2.1 p))) (qnx x.1 x.2.1 p) σ2 := fl2
                  have F2 : cSf σ σ2 := cSf_cg F1 g2
                  refine And.intro (fun (q : ¬ (-1) = (-1)) => absurd q (by decide)) (fun _ => ?_)
                  refine And.intro (show 0 ≤ 0 ∧ 0 ≤ 1 from by omega) ?_
                  refine And.intro (show 0 ≤ 0 ∧ 0 ≤ 1 from by omega) ?_
                  exact h0 (-(qofn x S.2.2 (S.2.1 0) (S.2.1 1) 3 (qnx x.1 x.2.1 p))) (qnx x.1 x.2.1 p) (σ 102 4 + 1) σ2 (by omega) (fun b L => qN_of ((eM b L).trans (if_pos c2)) (by omega)) fl2 F2
                · have c2 : 0 ≤ (qofn x S.2.2 (S.2.1 0) (S.2.1 1) 3 (qnx x.1 x.2.1 p)) := c2
                  have kq2 := r3 c2
                  clear r3
                  have eR29 : qlk x 0 (S.2.1 0) ((qnx x.1 x.2.1 p), S.2) = (qofn x S.2.2 (S.2.1 0) (S.2.1 1) 3 (qnx x.1 x.2.1 p)) := rfl
                  rw [eR29]
                  refine And.intro (fun (c30 : ¬ ((qofn x S.2.2 (S.2.1 0) (S.2.1 1) 3 (qnx x.1 x.2.1 p))) = (-1)) => ?_) (fun (c31 : ((qofn x S.2.2 (S.2.1 0) (S.2.1 1) 3 (qnx x.1 x.2.1 p))) = (-1)) => ?_)
                  · refine And.intro (show ((0 : Int) ≤ r9 ∧ r9 ≤ 29) ∧ 0 ≤ ((qofn x S.2.2 (S.2.1 0) (S.2.1 1) 3 (qnx x.1 x.2.1 p))) ∧ ((qofn x S.2.2 (S.2.1 0) (S.2.1 1) 3 (qnx x.1 x.2.1 p))) ≤ 6299 from by omega) (fun (σ2 : vS) g2 n2 => ?_)
                    have T2 : cT x (qnx x.1 x.2.1 p) σ2 := cT_sg T1 g2
                    have F2 : cSf σ σ2 := cSf_sg F1 g2
                    have N2 : σ2 102 4 = (σ 102 4) + 1 := n2.trans N1
                    have y2 : σ2 7 4 = σ1 7 4 := congrFun (g2 7 (by decide)) 4
                    have hk3 : ¬ qkd x.1 x.2.1 x.2.2 (qnx x.1 x.2.1 p) = 0 ∧ ¬ qkd x.1 x.2.1 x.2.2 (qnx x.1 x.2.1 p) = 4 := by first | exact (cT_nks T2).1 (by omega) | omega
                    refine And.intro (cT_nx ⟨T2, hk3⟩) (fun s3 (σ3 : vS) ha3 f3 t3_ => ?_)
                    have T3 : cT x (qnx x.1 x.2.1 (qnx x.1 x.2.1 p)) σ3 := cT_next T2 hk3 ha3 f3 t3_
                    have F3 : cSf σ σ3 := cSf_cg F2 (cg_of f3)
                    clear ha3
                    have N3 : σ3 102 4 = (σ 102 4) + 1 := (congrFun ((cg_of f3).1 102 (by decide)) 4).trans N2
                    refine And.intro (show 0 ≤ 1 ∧ 1 ≤ 1 from by omega) ?_
                    refine And.intro (show 0 ≤ 1 ∧ 1 ≤ 1 from by omega) ?_
                    exact h1 (qnx x.1 x.2.1 (qnx x.1 x.2.1 p)) σ3 T3 F3 ⟨by rw [N3]; exact Int.le_refl _, by rw [N3]; exact hon⟩ (fun b L => by rw [N3]; exact (qN_og hT hn ((eM b L).trans (if_neg (by omega)))).trans qN_d)
                  · refine And.intro (show 0 ≤ 0 ∧ 0 ≤ 1 from by omega) ?_
                    refine And.intro (show 0 ≤ 0 ∧ 0 ≤ 1 from by omega) ?_
                    exfalso; omega
              · refine fun z (t32 : (z = 1 ∧ σ1 7 4 = 5 ∧ σ1 7 6 = 60) ∨ (z = 0 ∧ ¬ (σ1 7 4 = 5 ∧ σ1 7 6 = 60))) => ?_
                rcases t32 with ⟨rfl, t32⟩ | ⟨rfl, t32⟩
                · refine And.intro (fun _ => ?_) (fun (q : 1 = 0) => absurd q (by decide))
                  have hk2 : ¬ qkd x.1 x.2.1 x.2.2 (qnx x.1 x.2.1 p) = 0 ∧ ¬ qkd x.1 x.2.1 x.2.2 (qnx x.1 x.2.1 p) = 4 := by first | exact (cT_nks T1).1 (by omega) | omega
                  refine And.intro (cT_nx ⟨T1, hk2⟩) (fun s2 (σ2 : vS) ha2 f2 t2_ => ?_)
                  have T2 : cT x (qnx x.1 x.2.1 (qnx x.1 x.2.1 p)) σ2 := cT_next T1 hk2 ha2 f2 t2_
                  have F2 : cSf σ σ2 := cSf_cg F1 (cg_of f2)
                  clear ha2
                  have N2 : σ2 102 4 = (σ 102 4) + 1 := (congrFun ((cg_of f2).1 102 (by decide)) 4).trans N1
                  have vu33 := cT_v T2
                  refine ⟨(cT_fl T2 (by decide : (0 : Int) ≤ 1 ∧ (1 : Int) ≤ 4)).2, fun cu33 => ?_, fun cu33 du33 => ?_, fun cu33 du33 eu33 => ?_⟩
                  · refine And.intro (fun (q : ¬ (-1) = (-1)) => absurd q (by decide)) (fun _ => ?_)
                    refine And.intro (show 0 ≤ 0 ∧ 0 ≤ 1 from by omega) ?_
                    refine And.intro (show 0 ≤ 0 ∧ 0 ≤ 1 from by omega) ?_
                    have hB := (cT_bg hT).2.2.1 (by omega)
                    have e3 : qsg3 x (qnx x.1 x.2.1 p) = true := (cT_s3 T1).mpr (by omega)
                    have e4 : ¬ qkd x.1 x.2.1 x.2.2 (qnx x.1 x.2.1 (qnx x.1 x.2.1 p)) = 2 := fun q => cu33 ((cT_nks T2).2.1.mp q)
                    exact h0 1 (qnx x.1 x.2.1 (qnx x.1 x.2.1 p)) (σ 102 4 + 1) _ (by decide) (fun b L => qN_of ((qop_s (by omega) hlim).trans ((if_pos e3).trans (if_neg e4))) (by decide)) (cFl_of T2) (cSf_cg F2 cg_fl)
                  · exfalso; have := vu33 cu33; omega
                  · have wu33 := vu33 cu33
                    clear vu33 du33 eu33
                    refine And.intro (fun (c34 : ¬ (σ2 7 6) = (-1)) => ?_) (fun (c35 : (σ2 7 6) = (-1)) => ?_)
                    · refine And.intro (show -2147483648 ≤ ((σ1 7 6) * 100) ∧ ((σ1 7 6) * 100) ≤ 2147483647 from by omega) ?_
                      refine And.intro (show -2147483648 ≤ (((σ1 7 6) * 100) + (σ2 7 6)) ∧ (((σ1 7 6) * 100) + (σ2 7 6)) ≤ 2147483647 from by omega) ?_
                      refine And.intro (show ((0 : Int) ≤ r9 ∧ r9 ≤ 29) ∧ 0 ≤ (((σ1 7 6) * 100) + (σ2 7 6)) ∧ (((σ1 7 6) * 100) + (σ2 7 6)) ≤ 6299 from by omega) (fun (σ3 : vS) g3 n3 => ?_)
                      have T3 : cT x (qnx x.1 x.2.1 (qnx x.1 x.2.1 p)) σ3 := cT_sg T2 g3
                      have F3 : cSf σ σ3 := cSf_sg F2 g3
                      have N3 : σ3 102 4 = (σ 102 4) + 1 := n3.trans N2
                      have y3 : σ3 7 4 = σ2 7 4 := congrFun (g3 7 (by decide)) 4
                      have hk4 : ¬ qkd x.1 x.2.1 x.2.2 (qnx x.1 x.2.1 (qnx x.1 x.2.1 p)) = 0 ∧ ¬ qkd x.1 x.2.1 x.2.2 (qnx x.1 x.2.1 (qnx x.1 x.2.1 p)) = 4 := by first | exact (cT_nks T3).1 (by omega) | omega
                      refine And.intro (cT_nx ⟨T3, hk4⟩) (fun s4 (σ4 : vS) ha4 f4 t4_ => ?_)
                      have T4 : cT x (qnx x.1 x.2.1 (qnx x.1 x.2.1 (qnx x.1 x.2.1 p))) σ4 := cT_next T3 hk4 ha4 f4 t4_
                      have F4 : cSf σ σ4 := cSf_cg F3 (cg_of f4)
                      clear ha4
                      have N4 : σ4 102 4 = (σ 102 4) + 1 := (congrFun ((cg_of f4).1 102 (by decide)) 4).trans N3
                      refine And.intro (show 0 ≤ 1 ∧ 1 ≤ 1 from by omega) ?_
                      refine And.intro (show 0 ≤ 1 ∧ 1 ≤ 1 from by omega) ?_
                      have hB := (cT_bg hT).2.2.1 (by omega)
                      have e3 : qsg3 x (qnx x.1 x.2.1 p) = true := (cT_s3 T1).mpr (by omega)
                      have e4 : qkd x.1 x.2.1 x.2.2 (qnx x.1 x.2.1 (qnx x.1 x.2.1 p)) = 2 := (cT_nks T2).2.1.mpr cu33
                      exact h1 (qnx x.1 x.2.1 (qnx x.1 x.2.1 (qnx x.1 x.2.1 p))) σ4 T4 F4 ⟨by rw [N4]; exact Int.le_refl _, by rw [N4]; exact hon⟩ (fun b L => by rw [N4]; exact (qN_og hT hn ((qop_s (by omega) hlim).trans ((if_pos e3).trans (if_pos e4)))).trans qN_d)
                    · refine And.intro (show 0 ≤ 0 ∧ 0 ≤ 1 from by omega) ?_
                      refine And.intro (show 0 ≤ 0 ∧ 0 ≤ 1 from by omega) ?_
                      exfalso; omega
                · refine And.intro (fun (q : ¬ 0 = 0) => absurd q (by decide)) (fun _ => ?_)
                  refine fun z (t36 : (z = 1 ∧ σ1 7 4 = 5 ∧ σ1 7 6 = 61) ∨ (z = 0 ∧ ¬ (σ1 7 4 = 5 ∧ σ1 7 6 = 61))) => ?_
                  rcases t36 with ⟨rfl, t36⟩ | ⟨rfl, t36⟩
                  · clear t32
                    refine And.intro (fun _ => ?_) (fun (q : 1 = 0) => absurd q (by decide))
                    have hk2 : ¬ qkd x.1 x.2.1 x.2.2 (qnx x.1 x.2.1 p) = 0 ∧ ¬ qkd x.1 x.2.1 x.2.2 (qnx x.1 x.2.1 p) = 4 := by first | exact (cT_nks T1).1 (by omega) | omega
                    refine And.intro (cT_nx ⟨T1, hk2⟩) (fun s2 (σ2 : vS) ha2 f2 t2_ => ?_)
                    have T2 : cT x (qnx x.1 x.2.1 (qnx x.1 x.2.1 p)) σ2 := cT_next T1 hk2 ha2 f2 t2_
                    have F2 : cSf σ σ2 := cSf_cg F1 (cg_of f2)
                    clear ha2
                    have N2 : σ2 102 4 = (σ 102 4) + 1 := (congrFun ((cg_of f2).1 102 (by decide)) 4).trans N1
                    have vu37 := cT_v T2
                    refine ⟨(cT_fl T2 (by decide : (0 : Int) ≤ 1 ∧ (1 : Int) ≤ 4)).2, fun cu37 => ?_, fun cu37 du37 => ?_, fun cu37 du37 eu37 => ?_⟩
                    · refine And.intro (fun (q : ¬ (-1) = (-1)) => absurd q (by decide)) (fun _ => ?_)
                      refine And.intro (show 0 ≤ 0 ∧ 0 ≤ 1 from by omega) ?_
                      refine And.intro (show 0 ≤ 0 ∧ 0 ≤ 1 from by omega) ?_
                      have hB := (cT_bg hT).2.2.1 (by omega)
                      have e3 : qsg3 x (qnx x.1 x.2.1 p) = true := (cT_s3 T1).mpr (by omega)
                      have e4 : ¬ qkd x.1 x.2.1 x.2.2 (qnx x.1 x.2.1 (qnx x.1 x.2.1 p)) = 2 := fun q => cu37 ((cT_nks T2).2.1.mp q)
                      exact h0 1 (qnx x.1 x.2.1 (qnx x.1 x.2.1 p)) (σ 102 4 + 1) _ (by decide) (fun b L => qN_of ((qop_s (by omega) hlim).trans ((if_pos e3).trans (if_neg e4))) (by decide)) (cFl_of T2) (cSf_cg F2 cg_fl)
                    · exfalso; have := vu37 cu37; omega
                    · have wu37 := vu37 cu37
                      clear vu37 du37 eu37
                      refine And.intro (fun (c38 : ¬ (σ2 7 6) = (-1)) => ?_) (fun (c39 : (σ2 7 6) = (-1)) => ?_)
                      · refine And.intro (show -2147483648 ≤ ((σ1 7 6) * 100) ∧ ((σ1 7 6) * 100) ≤ 2147483647 from by omega) ?_
                        refine And.intro (show -2147483648 ≤ (((σ1 7 6) * 100) + (σ2 7 6)) ∧ (((σ1 7 6) * 100) + (σ2 7 6)) ≤ 2147483647 from by omega) ?_
                        refine And.intro (show ((0 : Int) ≤ r9 ∧ r9 ≤ 29) ∧ 0 ≤ (((σ1 7 6) * 100) + (σ2 7 6)) ∧ (((σ1 7 6) * 100) + (σ2 7 6)) ≤ 6299 from by omega) (fun (σ3 : vS) g3 n3 => ?_)
                        have T3 : cT x (qnx x.1 x.2.1 (qnx x.1 x.2.1 p)) σ3 := cT_sg T2 g3
                        have F3 : cSf σ σ3 := cSf_sg F2 g3
                        have N3 : σ3 102 4 = (σ 102 4) + 1 := n3.trans N2
                        have y3 : σ3 7 4 = σ2 7 4 := congrFun (g3 7 (by decide)) 4
                        have hk4 : ¬ qkd x.1 x.2.1 x.2.2 (qnx x.1 x.2.1 (qnx x.1 x.2.1 p)) = 0 ∧ ¬ qkd x.1 x.2.1 x.2.2 (qnx x.1 x.2.1 (qnx x.1 x.2.1 p)) = 4 := by first | exact (cT_nks T3).1 (by omega) | omega
                        refine And.intro (cT_nx ⟨T3, hk4⟩) (fun s4 (σ4 : vS) ha4 f4 t4_ => ?_)
                        have T4 : cT x (qnx x.1 x.2.1 (qnx x.1 x.2.1 (qnx x.1 x.2.1 p))) σ4 := cT_next T3 hk4 ha4 f4 t4_
                        have F4 : cSf σ σ4 := cSf_cg F3 (cg_of f4)
                        clear ha4
                        have N4 : σ4 102 4 = (σ 102 4) + 1 := (congrFun ((cg_of f4).1 102 (by decide)) 4).trans N3
                        refine And.intro (show 0 ≤ 1 ∧ 1 ≤ 1 from by omega) ?_
                        refine And.intro (show 0 ≤ 1 ∧ 1 ≤ 1 from by omega) ?_
                        have hB := (cT_bg hT).2.2.1 (by omega)
                        have e3 : qsg3 x (qnx x.1 x.2.1 p) = true := (cT_s3 T1).mpr (by omega)
                        have e4 : qkd x.1 x.2.1 x.2.2 (qnx x.1 x.2.1 (qnx x.1 x.2.1 p)) = 2 := (cT_nks T2).2.1.mpr cu37
                        exact h1 (qnx x.1 x.2.1 (qnx x.1 x.2.1 (qnx x.1 x.2.1 p))) σ4 T4 F4 ⟨by rw [N4]; exact Int.le_refl _, by rw [N4]; exact hon⟩ (fun b L => by rw [N4]; exact (qN_og hT hn ((qop_s (by omega) hlim).trans ((if_pos e3).trans (if_pos e4)))).trans qN_d)
                      · refine And.intro (show 0 ≤ 0 ∧ 0 ≤ 1 from by omega) ?_
                        refine And.intro (show 0 ≤ 0 ∧ 0 ≤ 1 from by omega) ?_
                        exfalso; omega
                  · refine And.intro (fun (q : ¬ 0 = 0) => absurd q (by decide)) (fun _ => ?_)
                    refine fun z (t40 : (z = 1 ∧ σ1 7 4 = 5 ∧ σ1 7 6 = 62) ∨ (z = 0 ∧ ¬ (σ1 7 4 = 5 ∧ σ1 7 6 = 62))) => ?_
                    rcases t40 with ⟨rfl, t40⟩ | ⟨rfl, t40⟩
                    · clear t32 t36
                      refine And.intro (fun _ => ?_) (fun (q : 1 = 0) => absurd q (by decide))
                      have hk2 : ¬ qkd x.1 x.2.1 x.2.2 (qnx x.1 x.2.1 p) = 0 ∧ ¬ qkd x.1 x.2.1 x.2.2 (qnx x.1 x.2.1 p) = 4 := by first | exact (cT_nks T1).1 (by omega) | omega
                      refine And.intro (cT_nx ⟨T1, hk2⟩) (fun s2 (σ2 : vS) ha2 f2 t2_ => ?_)
                      have T2 : cT x (qnx x.1 x.2.1 (qnx x.1 x.2.1 p)) σ2 := cT_next T1 hk2 ha2 f2 t2_
                      have F2 : cSf σ σ2 := cSf_cg F1 (cg_of f2)
                      clear ha2
                      have N2 : σ2 102 4 = (σ 102 4) + 1 := (congrFun ((cg_of f2).1 102 (by decide)) 4).trans N1
                      have vu41 := cT_v T2
                      refine ⟨(cT_fl T2 (by decide : (0 : Int) ≤ 1 ∧ (1 : Int) ≤ 4)).2, fun cu41 => ?_, fun cu41 du41 => ?_, fun cu41 du41 eu41 => ?_⟩
                      · refine And.intro (fun (q : ¬ (-1) = (-1)) => absurd q (by decide)) (fun _ => ?_)
                        refine And.intro (show 0 ≤ 0 ∧ 0 ≤ 1 from by omega) ?_
                        refine And.intro (show 0 ≤ 0 ∧ 0 ≤ 1 from by omega) ?_
                        have hB := (cT_bg hT).2.2.1 (by omega)
                        have e3 : qsg3 x (qnx x.1 x.2.1 p) = true := (cT_s3 T1).mpr (by omega)
                        have e4 : ¬ qkd x.1 x.2.1 x.2.2 (qnx x.1 x.2.1 (qnx x.1 x.2.1 p)) = 2 := fun q => cu41 ((cT_nks T2).2.1.mp q)
                        exact h0 1 (qnx x.1 x.2.1 (qnx x.1 x.2.1 p)) (σ 102 4 + 1) _ (by decide) (fun b L => qN_of ((qop_s (by omega) hlim).trans ((if_pos e3).trans (if_neg e4))) (by decide)) (cFl_of T2) (cSf_cg F2 cg_fl)
                      · exfalso; have := vu41 cu41; omega
                      · have wu41 := vu41 cu41
                        clear vu41 du41 eu41
                        refine And.intro (fun (c42 : ¬ (σ2 7 6) = (-1)) => ?_) (fun (c43 : (σ2 7 6) = (-1)) => ?_)
                        · refine And.intro (show -2147483648 ≤ ((σ1 7 6) * 100) ∧ ((σ1 7 6) * 100) ≤ 2147483647 from by omega) ?_
                          refine And.intro (show -2147483648 ≤ (((σ1 7 6) * 100) + (σ2 7 6)) ∧ (((σ1 7 6) * 100) + (σ2 7 6)) ≤ 2147483647 from by omega) ?_
                          refine And.intro (show ((0 : Int) ≤ r9 ∧ r9 ≤ 29) ∧ 0 ≤ (((σ1 7 6) * 100) + (σ2 7 6)) ∧ (((σ1 7 6) * 100) + (σ2 7 6)) ≤ 6299 from by omega) (fun (σ3 : vS) g3 n3 => ?_)
                          have T3 : cT x (qnx x.1 x.2.1 (qnx x.1 x.2.1 p)) σ3 := cT_sg T2 g3
                          have F3 : cSf σ σ3 := cSf_sg F2 g3
                          have N3 : σ3 102 4 = (σ 102 4) + 1 := n3.trans N2
                          have y3 : σ3 7 4 = σ2 7 4 := congrFun (g3 7 (by decide)) 4
                          have hk4 : ¬ qkd x.1 x.2.1 x.2.2 (qnx x.1 x.2.1 (qnx x.1 x.2.1 p)) = 0 ∧ ¬ qkd x.1 x.2.1 x.2.2 (qnx x.1 x.2.1 (qnx x.1 x.2.1 p)) = 4 := by first | exact (cT_nks T3).1 (by omega) | omega
                          refine And.intro (cT_nx ⟨T3, hk4⟩) (fun s4 (σ4 : vS) ha4 f4 t4_ => ?_)
                          have T4 : cT x (qnx x.1 x.2.1 (qnx x.1 x.2.1 (qnx x.1 x.2.1 p))) σ4 := cT_next T3 hk4 ha4 f4 t4_
                          have F4 : cSf σ σ4 := cSf_cg F3 (cg_of f4)
                          clear ha4
                          have N4 : σ4 102 4 = (σ 102 4) + 1 := (congrFun ((cg_of f4).1 102 (by decide)) 4).trans N3
                          refine And.intro (show 0 ≤ 1 ∧ 1 ≤ 1 from by omega) ?_
                          refine And.intro (show 0 ≤ 1 ∧ 1 ≤ 1 from by omega) ?_
                          have hB := (cT_bg hT).2.2.1 (by omega)
                          have e3 : qsg3 x (qnx x.1 x.2.1 p) = true := (cT_s3 T1).mpr (by omega)
                          have e4 : qkd x.1 x.2.1 x.2.2 (qnx x.1 x.2.1 (qnx x.1 x.2.1 p)) = 2 := (cT_nks T2).2.1.mpr cu41
                          exact h1 (qnx x.1 x.2.1 (qnx x.1 x.2.1 (qnx x.1 x.2.1 p))) σ4 T4 F4 ⟨by rw [N4]; exact Int.le_refl _, by rw [N4]; exact hon⟩ (fun b L => by rw [N4]; exact (qN_og hT hn ((qop_s (by omega) hlim).trans ((if_pos e3).trans (if_pos e4)))).trans qN_d)
                        · refine And.intro (show 0 ≤ 0 ∧ 0 ≤ 1 from by omega) ?_
                          refine And.intro (show 0 ≤ 0 ∧ 0 ≤ 1 from by omega) ?_
                          exfalso; omega
                    · refine And.intro (fun (q : ¬ 0 = 0) => absurd q (by decide)) (fun _ => ?_)
                      refine And.intro (cT_fl T1 (by omega)) ?_
                      refine And.intro (show 0 ≤ 0 ∧ 0 ≤ 1 from by omega) ?_
                      refine And.intro (show 0 ≤ 0 ∧ 0 ≤ 1 from by omega) ?_
                      have hB := (cT_bg hT).2.2.1 (by omega)
                      have e3 : ¬ qsg3 x (qnx x.1 x.2.1 p) = true := fun q => by have := (cT_s3 T1).mp q; omega
                      exact h0 1 (qnx x.1 x.2.1 p) (σ 102 4 + 1) _ (by decide) (fun b L => qN_of ((qop_s (by omega) hlim).trans (if_neg e3)) (by decide)) (cFl_of T1) (cSf_cg F1 cg_fl)
            · refine And.intro (cT_fl hT (by omega)) ?_
              refine And.intro (show 0 ≤ 0 ∧ 0 ≤ 1 from by omega) ?_
              have hB : ¬ qbeg x p = -1 := by
                by_cases e : σ 7 6 = 21
                · have := (cT_bg hT).2.1 (by omega); omega
                · have := (cT_bg hT).2.2.1 (by omega); omega
              exact h0 4 p (σ 102 4) _ (by decide) (fun b L => qN_of (qop_4 hB (by omega)) (by decide)) (cFl_of hT) (cSf_cg cSf_refl cg_fl)
        · refine And.intro (cT_fl hT (by omega)) ?_
          refine And.intro (show 0 ≤ 0 ∧ 0 ≤ 1 from by omega) ?_
          have hB : qbeg x p = -1 := (cT_bg hT).2.2.2 t1 (by omega)
          exact h0 1 p (σ 102 4) _ (by decide) (fun b L => qN_of (qop_1 hB) (by decide)) (cFl_of hT) (cSf_cg cSf_refl cg_fl)
  · exact absurd h id
theorem vt_52z_8 (X : zX gKX E) (B : zB E) (i55 : zOKR E md72 w gr_55_8 (vt55 8)) {d bo i : Int} (hK : K (some (.inl 0)) σ) : zGC E md72 w gr_52_8.1 15 [(0, .inr (.inl 102)), (1, .inr (.inl 7)), (2, .inr (.inl 93)), (3, .inl d), (4, .inl 0), (5, .inl bo), (6, .inl i)] σ K := by
  refine zbdC (fun hb => zgoR (⟨rfl, rfl, rfl⟩ : zalt gr_52_8 (gm_52, 8)) (⟨rfl, rfl, rfl⟩ : zalt gr_55_8 (gm_55, 7)) X B zOKR_no i55 (vLA_ok X B) (by decide) [] [(15, [0, 1, 2, 3, 4, 5, 6])] (fun m => Nat.beq m.2.2.2.2.2.2.length 59) (by decide +kernel) ?_)
  refine And.intro (fun _ => ?_) (fun (q : ¬ 0 = 0) => absurd q (by decide))
  refine And.intro (show 0 ≤ 0 ∧ 0 ≤ 1 from by omega) ?_
  exact hK
set_option maxRecDepth 16384 in
theorem vt_52l_8 (X : zX gKX E) (B : zB E) (i55 : zOKR E md72 w gr_55_8 (vt55 8)) {d o0 p0 : Int} {x : qX} {S : qS} {σ0 : vS} (hd : d = 8) (hS0 : cSn S σ0) (hn : x.2.1 ≤ 940) (h0 : ∀ (k p2 o2 : Int) (σ2 : vS), ¬ k = 0 → (∀ L : List Int, qN x S false d d L o0 p0 = (k, p2, o2)) → cFl x k p2 σ2 → cSf σ0 σ2 → K (some (.inl 0)) σ2) (h1 : ∀ (p2 : Int) (σ2 : vS), cT x p2 σ2 → cSf σ0 σ2 → (o0 + 1 ≤ σ2 102 4 ∧ σ2 102 4 ≤ 20) → (∀ L : List Int, qN x S false d d L o0 p0 = qN x S true d d L (σ2 102 4) p2) → ¬ (qisw x p2 (qrw 20) = true ∨ qisw x p2 (qrw 19) = true) → K (some (.inl 1)) σ2) : ∀ (m : Nat) (bo i : Int) (σ : vS) (p : Int), 21 - i < (m : Int) → 0 ≤ i → (0 ≤ bo ∧ bo ≤ 1) → i + 1 ≤ σ 102 4 → cT x p σ → cSf σ0 σ → (o0 + 1 ≤ σ 102 4 ∧ σ 102 4 ≤ 20) → (∀ L : List Int, qN x S false d d L o0 p0 = qN x S true d d L (σ 102 4) p) → zGC E md72 w gr_52_8.1 15 [(0, .inr (.inl 102)), (1, .inr (.inl 7)), (2, .inr (.inl 93)), (3, .inl d), (4, .inl 1), (5, .inl bo), (6, .inl i)] σ K := by
  intro m
  induction m with
  | zero => intro bo i σ p h a c e; omega
  | succ m ih =>
    intro bo i σ p hm hi hbo hio hT hF ho hq
    have hS := cSn_f hS0 hF
    refine zbdC (fun hb => zgoR (⟨rfl, rfl, rfl⟩ : zalt gr_52_8 (gm_52, 8)) (⟨rfl, rfl, rfl⟩ : zalt gr_55_8 (gm_55, 7)) X B zOKR_no i55 (vLA_ok X B) (by decide) [] [(15, [0, 1, 2, 3, 4, 5, 6])] (fun m => Nat.beq m.2.2.2.2.2.2.length 59) (by decide +kernel) ?_)
    refine And.intro (fun (q : 1 = 0) => absurd q (by decide)) (fun _ => ?_)
    refine And.intro (fun (c1 : 20 < i) => ?_) (fun (c2 : i ≤ 20) => ?_)
    · refine And.intro (show 0 ≤ 0 ∧ 0 ≤ 1 from by omega) ?_
      exfalso; omega
    · refine fun (r3 : Int) (t4 : (σ 7 4 = 2 ∧ r3 = σ 7 6) ∨ (¬ σ 7 4 = 2 ∧ r3 = -1)) => ?_
      refine And.intro (fun (c5 : bo = 0) => ?_) (fun (c6 : ¬ bo = 0) => ?_)
      · refine And.intro (fun (c7 : r3 = 20) => ?_) (fun (c8 : ¬ r3 = 20) => ?_)
        · have hj : qisw x p (qrw 20) = true ∨ qisw x p (qrw 19) = true := by
            by_cases e : r3 = 20
            · exact Or.inl ((cT_kws hT (by decide)).mpr (by omega))
            · exact Or.inr ((cT_kws hT (by decide)).mpr (by omega))
          have eJ : ∀ L : List Int, qN x S true d d L (σ 102 4) p = qN x S false d d L (σ 102 4) (qnx x.1 x.2.1 p) := fun L => qN_jn hT hn hj
          have hkj : qkd x.1 x.2.1 x.2.2 p = 1 := hj.elim qisw_k qisw_k
          have hk1 : ¬ qkd x.1 x.2.1 x.2.2 p = 0 ∧ ¬ qkd x.1 x.2.1 x.2.2 p = 4 := by first | exact (cT_nks hT).1 (by omega) | omega
          refine And.intro (cT_nx ⟨hT, hk1⟩) (fun s1 (σ1 : vS) ha1 f1 t1_ => ?_)
          have T1 : cT x (qnx x.1 x.2.1 p) σ1 := cT_next hT hk1 ha1 f1 t1_
          have F1 : cSf σ σ1 := cSf_cg cSf_refl (cg_of f1)
          clear ha1
          have N1 : σ1 102 4 = σ 102 4 := congrFun ((cg_of f1).1 102 (by decide)) 4
          refine ⟨show d = 8 from by omega, x, (qnx x.1 x.2.1 p), S, ⟨T1, cSn_f hS F1, hn⟩, fun k2 p2 o2 (σ2 : vS) hk2 (q2 : (∀ (b : Int) (L : List Int), qN x S false d b L (σ1 102 4) (qnx x.1 x.2.1 p) = (k2, p2, o2))) fl2 g2 => ?_, fun p2 (σ2 : vS) (T2 : cT x p2 σ2) g2 m2 (q2 : (∀ (b : Int) (L : List Int), qN x S false d b L (σ1 102 4) (qnx x.1 x.2.1 p) = qN x S true b b L (σ2 102 4) p2)) => ?_⟩
          · rw [N1] at q2
            have F2 : cSf σ σ2 := cSf_tr F1 g2
            refine And.intro (fun (q : ¬ r3 = 20) => (by exfalso; omega)) (fun _ => ?_)
            refine And.intro (show ((0 : Int) ≤ 20 ∧ 20 ≤ 29) ∧ 0 ≤ 0 ∧ 0 ≤ 6299 from by omega) (fun (σ3 : vS) g3 n3 => ?_)
            have F3 : cSf σ σ3 := cSf_sg F2 g3
            have y3 : σ3 7 4 = σ2 7 4 := congrFun (g3 7 (by decide)) 4
            refine And.intro (show -2147483648 ≤ (i + 1) ∧ (i + 1) ≤ 2147483647 from by omega) ?_
            show zGC E md72 w gr_52_8.1 15 [(0, .inr (.inl 102)), (1, .inr (.inl 7)), (2, .inr (.inl 93)), (3, .inl d), (4, .inl 0), (5, .inl bo), (6, .inl (i + 1))] σ3 K
            exact vt_52z_8 X B i55 (h0 k2 p2 o2 σ3 hk2 (fun L => ((hq L).trans (eJ L)).trans (q2 d L)) (cFl_sg fl2 g3) (cSf_tr hF F3))
          · rw [N1] at q2 m2
            have F2 : cSf σ σ2 := cSf_tr F1 g2
            refine And.intro (fun (q : ¬ r3 = 20) => (by exfalso; omega)) (fun _ => ?_)
            refine And.intro (show ((0 : Int) ≤ 20 ∧ 20 ≤ 29) ∧ 0 ≤ 0 ∧ 0 ≤ 6299 from by omega) (fun (σ3 : vS) g3 n3 => ?_)
            have T3 : cT x p2 σ3 := cT_sg T2 g3
            have F3 : cSf σ σ3 := cSf_sg F2 g3
            have N3 : σ3 102 4 = σ2 102 4 := n3
            have y3 : σ3 7 4 = σ2 7 4 := congrFun (g3 7 (by decide)) 4
            refine And.intro (show -2147483648 ≤ (i + 1) ∧ (i + 1) ≤ 2147483647 from by omega) ?_
            show zGC E md72 w gr_52_8.1 15 [(0, .inr (.inl 102)), (1, .inr (.inl 7)), (2, .inr (.inl 93)), (3, .inl d), (4, .inl 1), (5, .inl bo), (6, .inl (i + 1))] σ3 K
            exact ih bo (i + 1) σ3 p2 (by omega) (by omega) (by omega) (by omega) T3 (cSf_tr hF F3) (by omega) (fun L => by rw [N3]; exact ((hq L).trans (eJ L)).trans (q2 d L))
        · refine And.intro (fun (c9 : r3 = 19) => ?_) (fun (c10 : ¬ r3 = 19) => ?_)
          · have hj : qisw x p (qrw 20) = true ∨ qisw x p (qrw 19) = true := by
              by_cases e : r3 = 20
              · exact Or.inl ((cT_kws hT (by decide)).mpr (by omega))
              · exact Or.inr ((cT_kws hT (by decide)).mpr (by omega))
            have eJ : ∀ L : List Int, qN x S true d d L (σ 102 4) p = qN x S false d d L (σ 102 4) (qnx x.1 x.2.1 p) := fun L => qN_jn hT hn hj
            have hkj : qkd x.1 x.2.1 x.2.2 p = 1 := hj.elim qisw_k qisw_k
            have hk1 : ¬ qkd x.1 x.2.1 x.2.2 p = 0 ∧ ¬ qkd x.1 x.2.1 x.2.2 p = 4 := by first | exact (cT_nks hT).1 (by omega) | omega
            refine And.intro (cT_nx ⟨hT, hk1⟩) (fun s1 (σ1 : vS) ha1 f1 t1_ => ?_)
            have T1 : cT x (qnx x.1 x.2.1 p) σ1 := cT_next hT hk1 ha1 f1 t1_
            have F1 : cSf σ σ1 := cSf_cg cSf_refl (cg_of f1)
            clear ha1
            have N1 : σ1 102 4 = σ 102 4 := congrFun ((cg_of f1).1 102 (by decide)) 4
            refine ⟨show d = 8 from by omega, x, (qnx x.1 x.2.1 p), S, ⟨T1, cSn_f hS F1, hn⟩, fun k2 p2 o2 (σ2 : vS) hk2 (q2 : (∀ (b : Int) (L : List Int), qN x S false d b L (σ1 102 4) (qnx x.1 x.2.1 p) = (k2, p2, o2))) fl2 g2 => ?_, fun p2 (σ2 : vS) (T2 : cT x p2 σ2) g2 m2 (q2 : (∀ (b : Int) (L : List Int), qN x S false d b L (σ1 102 4) (qnx x.1 x.2.1 p) = qN x S true b b L (σ2 102 4) p2)) => ?_⟩
            · rw [N1] at q2
              have F2 : cSf σ σ2 := cSf_tr F1 g2
              refine And.intro (fun _ => ?_) (fun (q : r3 = 20) => (by exfalso; omega))
              refine And.intro (show -2147483648 ≤ (i + 1) ∧ (i + 1) ≤ 2147483647 from by omega) ?_
              show zGC E md72 w gr_52_8.1 15 [(0, .inr (.inl 102)), (1, .inr (.inl 7)), (2, .inr (.inl 93)), (3, .inl d), (4, .inl 0), (5, .inl 1), (6, .inl (i + 1))] σ2 K
              exact vt_52z_8 X B i55 (h0 k2 p2 o2 σ2 hk2 (fun L => ((hq L).trans (eJ L)).trans (q2 d L)) fl2 (cSf_tr hF F2))
            · rw [N1] at q2 m2
              have F2 : cSf σ σ2 := cSf_tr F1 g2
              refine And.intro (fun _ => ?_) (fun (q : r3 = 20) => (by exfalso; omega))
              refine And.intro (show -2147483648 ≤ (i + 1) ∧ (i + 1) ≤ 2147483647 from by omega) ?_
              show zGC E md72 w gr_52_8.1 15 [(0, .inr (.inl 102)), (1, .inr (.inl 7)), (2, .inr (.inl 93)), (3, .inl d), (4, .inl 1), (5, .inl 1), (6, .inl (i + 1))] σ2 K
              exact ih 1 (i + 1) σ2 p2 (by omega) (by omega) (by omega) (by omega) T2 (cSf_tr hF F2) (by omega) (fun L => by exact ((hq L).trans (eJ L)).trans (q2 d L))
          · refine And.intro (show 0 ≤ 1 ∧ 1 ≤ 1 from by omega) ?_
            have hj : ¬ (qisw x p (qrw 20) = true ∨ qisw x p (qrw 19) = true) := fun q => q.elim (fun q => by have := (cT_kws hT (j := 20) (by decide)).mp q; omega) (fun q => by have := (cT_kws hT (j := 19) (by decide)).mp q; omega)
            exact h1 p σ hT (cSf_tr hF cSf_refl) (by omega) (fun L => by exact hq L) hj
      · refine And.intro (fun (c11 : r3 = 20) => ?_) (fun (c12 : ¬ r3 = 20) => ?_)
        · refine And.intro (fun _ => ?_) (fun (q : ¬ r3 = 20) => (by exfalso; omega))
          have hj : qisw x p (qrw 20) = true ∨ qisw x p (qrw 19) = true := by
            by_cases e : r3 = 20
            · exact Or.inl ((cT_kws hT (by decide)).mpr (by omega))
            · exact Or.inr ((cT_kws hT (by decide)).mpr (by omega))
          have eJ : ∀ L : List Int, qN x S true d d L (σ 102 4) p = qN x S false d d L (σ 102 4) (qnx x.1 x.2.1 p) := fun L => qN_jn hT hn hj
          have hkj : qkd x.1 x.2.1 x.2.2 p = 1 := hj.elim qisw_k qisw_k
          have hk1 : ¬ qkd x.1 x.2.1 x.2.2 p = 0 ∧ ¬ qkd x.1 x.2.1 x.2.2 p = 4 := by first | exact (cT_nks hT).1 (by omega) | omega
          refine And.intro (cT_nx ⟨hT, hk1⟩) (fun s1 (σ1 : vS) ha1 f1 t1_ => ?_)
          have T1 : cT x (qnx x.1 x.2.1 p) σ1 := cT_next hT hk1 ha1 f1 t1_
          have F1 : cSf σ σ1 := cSf_cg cSf_refl (cg_of f1)
          clear ha1
          have N1 : σ1 102 4 = σ 102 4 := congrFun ((cg_of f1).1 102 (by decide)) 4
          refine ⟨show d = 8 from by omega, x, (qnx x.1 x.2.1 p), S, ⟨T1, cSn_f hS F1, hn⟩, fun k2 p2 o2 (σ2 : vS) hk2 (q2 : (∀ (b : Int) (L : List Int), qN x S false d b L (σ1 102 4) (qnx x.1 x.2.1 p) = (k2, p2, o2))) fl2 g2 => ?_, fun p2 (σ2 : vS) (T2 : cT x p2 σ2) g2 m2 (q2 : (∀ (b : Int) (L : List Int), qN x S false d b L (σ1 102 4) (qnx x.1 x.2.1 p) = qN x S true b b L (σ2 102 4) p2)) => ?_⟩
          · rw [N1] at q2
            have F2 : cSf σ σ2 := cSf_tr F1 g2
            refine And.intro (fun (q : ¬ r3 = 20) => (by exfalso; omega)) (fun _ => ?_)
            refine And.intro (show ((0 : Int) ≤ 20 ∧ 20 ≤ 29) ∧ 0 ≤ 0 ∧ 0 ≤ 6299 from by omega) (fun (σ3 : vS) g3 n3 => ?_)
            have F3 : cSf σ σ3 := cSf_sg F2 g3
            have y3 : σ3 7 4 = σ2 7 4 := congrFun (g3 7 (by decide)) 4
            refine And.intro (show -2147483648 ≤ (i + 1) ∧ (i + 1) ≤ 2147483647 from by omega) ?_
            show zGC E md72 w gr_52_8.1 15 [(0, .inr (.inl 102)), (1, .inr (.inl 7)), (2, .inr (.inl 93)), (3, .inl d), (4, .inl 0), (5, .inl bo), (6, .inl (i + 1))] σ3 K
            exact vt_52z_8 X B i55 (h0 k2 p2 o2 σ3 hk2 (fun L => ((hq L).trans (eJ L)).trans (q2 d L)) (cFl_sg fl2 g3) (cSf_tr hF F3))
          · rw [N1] at q2 m2
            have F2 : cSf σ σ2 := cSf_tr F1 g2
            refine And.intro (fun (q : ¬ r3 = 20) => (by exfalso; omega)) (fun _ => ?_)
            refine And.intro (show ((0 : Int) ≤ 20 ∧ 20 ≤ 29) ∧ 0 ≤ 0 ∧ 0 ≤ 6299 from by omega) (fun (σ3 : vS) g3 n3 => ?_)
            have T3 : cT x p2 σ3 := cT_sg T2 g3
            have F3 : cSf σ σ3 := cSf_sg F2 g3
            have N3 : σ3 102 4 = σ2 102 4 := n3
            have y3 : σ3 7 4 = σ2 7 4 := congrFun (g3 7 (by decide)) 4
            refine And.intro (show -2147483648 ≤ (i + 1) ∧ (i + 1) ≤ 2147483647 from by omega) ?_
            show zGC E md72 w gr_52_8.1 15 [(0, .inr (.inl 102)), (1, .inr (.inl 7)), (2, .inr (.inl 93)), (3, .inl d), (4, .inl 1), (5, .inl bo), (6, .inl (i + 1))] σ3 K
            exact ih bo (i + 1) σ3 p2 (by omega) (by omega) (by omega) (by omega) T3 (cSf_tr hF F3) (by omega) (fun L => by rw [N3]; exact ((hq L).trans (eJ L)).trans (q2 d L))
        · refine And.intro (show ((0 : Int) ≤ 19 ∧ 19 ≤ 29) ∧ 0 ≤ 0 ∧ 0 ≤ 6299 from by omega) (fun (σ1 : vS) g1 n1 => ?_)
          have T1 : cT x p σ1 := cT_sg hT g1
          have F1 : cSf σ σ1 := cSf_sg cSf_refl g1
          have N1 : σ1 102 4 = σ 102 4 := n1
          have y1 : σ1 7 4 = σ 7 4 := congrFun (g1 7 (by decide)) 4
          refine And.intro (fun (c13 : r3 = 20) => ?_) (fun (c14 : ¬ r3 = 20) => ?_)
          · have hj : qisw x p (qrw 20) = true ∨ qisw x p (qrw 19) = true := by
              by_cases e : r3 = 20
              · exact Or.inl ((cT_kws hT (by decide)).mpr (by omega))
              · exact Or.inr ((cT_kws hT (by decide)).mpr (by omega))
            have eJ : ∀ L : List Int, qN x S true d d L (σ 102 4) p = qN x S false d d L (σ 102 4) (qnx x.1 x.2.1 p) := fun L => qN_jn hT hn hj
            have hkj : qkd x.1 x.2.1 x.2.2 p = 1 := hj.elim qisw_k qisw_k
            have hk2 : ¬ qkd x.1 x.2.1 x.2.2 p = 0 ∧ ¬ qkd x.1 x.2.1 x.2.2 p = 4 := by first | exact (cT_nks T1).1 (by omega) | omega
            refine And.intro (cT_nx ⟨T1, hk2⟩) (fun s2 (σ2 : vS) ha2 f2 t2_ => ?_)
            have T2 : cT x (qnx x.1 x.2.1 p) σ2 := cT_next T1 hk2 ha2 f2 t2_
            have F2 : cSf σ σ2 := cSf_cg F1 (cg_of f2)
            clear ha2
            have N2 : σ2 102 4 = σ 102 4 := (congrFun ((cg_of f2).1 102 (by decide)) 4).trans N1
            refine ⟨show d = 8 from by omega, x, (qnx x.1 x.2.1 p), S, ⟨T2, cSn_f hS F2, hn⟩, fun k3 p3 o3 (σ3 : vS) hk3 (q3 : (∀ (b : Int) (L : List Int), qN x S false d b L (σ2 102 4) (qnx x.1 x.2.1 p) = (k3, p3, o3))) fl3 g3 => ?_, fun p3 (σ3 : vS) (T3 : cT x p3 σ3) g3 m3 (q3 : (∀ (b : Int) (L : List Int), qN x S false d b L (σ2 102 4) (qnx x.1 x.2.1 p) = qN x S true b b L (σ3 102 4) p3)) => ?_⟩
            · rw [N2] at q3
              have F3 : cSf σ σ3 := cSf_tr F2 g3
              refine And.intro (fun (q : ¬ r3 = 20) => (by exfalso; omega)) (fun _ => ?_)
              refine And.intro (show ((0 : Int) ≤ 20 ∧ 20 ≤ 29) ∧ 0 ≤ 0 ∧ 0 ≤ 6299 from by omega) (fun (σ4 : vS) g4 n4 => ?_)
              have F4 : cSf σ σ4 := cSf_sg F3 g4
              have y4 : σ4 7 4 = σ3 7 4 := congrFun (g4 7 (by decide)) 4
              refine And.intro (show -2147483648 ≤ (i + 1) ∧ (i + 1) ≤ 2147483647 from by omega) ?_
              show zGC E md72 w gr_52_8.1 15 [(0, .inr (.inl 102)), (1, .inr (.inl 7)), (2, .inr (.inl 93)), (3, .inl d), (4, .inl 0), (5, .inl 0), (6, .inl (i + 1))] σ4 K
              exact vt_52z_8 X B i55 (h0 k3 p3 o3 σ4 hk3 (fun L => ((hq L).trans (eJ L)).trans (q3 d L)) (cFl_sg fl3 g4) (cSf_tr hF F4))
            · rw [N2] at q3 m3
              have F3 : cSf σ σ3 := cSf_tr F2 g3
              refine And.intro (fun (q : ¬ r3 = 20) => (by exfalso; omega)) (fun _ => ?_)
              refine And.intro (show ((0 : Int) ≤ 20 ∧ 20 ≤ 29) ∧ 0 ≤ 0 ∧ 0 ≤ 6299 from by omega) (fun (σ4 : vS) g4 n4 => ?_)
              have T4 : cT x p3 σ4 := cT_sg T3 g4
              have F4 : cSf σ σ4 := cSf_sg F3 g4
              have N4 : σ4 102 4 = σ3 102 4 := n4
              have y4 : σ4 7 4 = σ3 7 4 := congrFun (g4 7 (by decide)) 4
              refine And.intro (show -2147483648 ≤ (i + 1) ∧ (i + 1) ≤ 2147483647 from by omega) ?_
              show zGC E md72 w gr_52_8.1 15 [(0, .inr (.inl 102)), (1, .inr (.inl 7)), (2, .inr (.inl 93)), (3, .inl d), (4, .inl 1), (5, .inl 0), (6, .inl (i + 1))] σ4 K
              exact ih 0 (i + 1) σ4 p3 (by omega) (by omega) (by omega) (by omega) T4 (cSf_tr hF F4) (by omega) (fun L => by rw [N4]; exact ((hq L).trans (eJ L)).trans (q3 d L))
          · refine And.intro (fun (c15 : r3 = 19) => ?_) (fun (c16 : ¬ r3 = 19) => ?_)
            · have hj : qisw x p (qrw 20) = true ∨ qisw x p (qrw 19) = true := by
                by_cases e : r3 = 20
                · exact Or.inl ((cT_kws hT (by decide)).mpr (by omega))
                · exact Or.inr ((cT_kws hT (by decide)).mpr (by omega))
              have eJ : ∀ L : List Int, qN x S true d d L (σ 102 4) p = qN x S false d d L (σ 102 4) (qnx x.1 x.2.1 p) := fun L => qN_jn hT hn hj
              have hkj : qkd x.1 x.2.1 x.2.2 p = 1 := hj.elim qisw_k qisw_k
              have hk2 : ¬ qkd x.1 x.2.1 x.2.2 p = 0 ∧ ¬ qkd x.1 x.2.1 x.2.2 p = 4 := by first | exact (cT_nks T1).1 (by omega) | omega
              refine And.intro (cT_nx ⟨T1, hk2⟩) (fun s2 (σ2 : vS) ha2 f2 t2_ => ?_)
              have T2 : cT x (qnx x.1 x.2.1 p) σ2 := cT_next T1 hk2 ha2 f2 t2_
              have F2 : cSf σ σ2 := cSf_cg F1 (cg_of f2)
              clear ha2
              have N2 : σ2 102 4 = σ 102 4 := (congrFun ((cg_of f2).1 102 (by decide)) 4).trans N1
              refine ⟨show d = 8 from by omega, x, (qnx x.1 x.2.1 p), S, ⟨T2, cSn_f hS F2, hn⟩, fun k3 p3 o3 (σ3 : vS) hk3 (q3 : (∀ (b : Int) (L : List Int), qN x S false d b L (σ2 102 4) (qnx x.1 x.2.1 p) = (k3, p3, o3))) fl3 g3 => ?_, fun p3 (σ3 : vS) (T3 : cT x p3 σ3) g3 m3 (q3 : (∀ (b : Int) (L : List Int), qN x S false d b L (σ2 102 4) (qnx x.1 x.2.1 p) = qN x S true b b L (σ3 102 4) p3)) => ?_⟩
              · rw [N2] at q3
                have F3 : cSf σ σ3 := cSf_tr F2 g3
                refine And.intro (fun _ => ?_) (fun (q : r3 = 20) => (by exfalso; omega))
                refine And.intro (show -2147483648 ≤ (i + 1) ∧ (i + 1) ≤ 2147483647 from by omega) ?_
                show zGC E md72 w gr_52_8.1 15 [(0, .inr (.inl 102)), (1, .inr (.inl 7)), (2, .inr (.inl 93)), (3, .inl d), (4, .inl 0), (5, .inl 1), (6, .inl (i + 1))] σ3 K
                exact vt_52z_8 X B i55 (h0 k3 p3 o3 σ3 hk3 (fun L => ((hq L).trans (eJ L)).trans (q3 d L)) fl3 (cSf_tr hF F3))
              · rw [N2] at q3 m3
                have F3 : cSf σ σ3 := cSf_tr F2 g3
                refine And.intro (fun _ => ?_) (fun (q : r3 = 20) => (by exfalso; omega))
                refine And.intro (show -2147483648 ≤ (i + 1) ∧ (i + 1) ≤ 2147483647 from by omega) ?_
                show zGC E md72 w gr_52_8.1 15 [(0, .inr (.inl 102)), (1, .inr (.inl 7)), (2, .inr (.inl 93)), (3, .inl d), (4, .inl 1), (5, .inl 1), (6, .inl (i + 1))] σ3 K
                exact ih 1 (i + 1) σ3 p3 (by omega) (by omega) (by omega) (by omega) T3 (cSf_tr hF F3) (by omega) (fun L => by exact ((hq L).trans (eJ L)).trans (q3 d L))
            · refine And.intro (show 0 ≤ 1 ∧ 1 ≤ 1 from by omega) ?_
              have hj : ¬ (qisw x p (qrw 20) = true ∨ qisw x p (qrw 19) = true) := fun q => q.elim (fun q => by have := (cT_kws hT (j := 20) (by decide)).mp q; omega) (fun q => by have := (cT_kws hT (j := 19) (by decide)).mp q; omega)
              exact h1 p σ1 T1 (cSf_tr hF F1) (by omega) (fun L => by rw [N1]; exact hq L) hj
set_option maxRecDepth 16384 in
theorem vt_52_8 (X : zX gKX E) (B : zB E) (i55 : zOKR E md72 w gr_55_8 (vt55 8)) : zOKR E md72 w gr_52_8 (vt52 8) := by
  intro vs σ K h
  unfold vt52 at h
  split at h
  · rename_i d
    obtain ⟨hd, x, p, S, ⟨hT, hS, hn⟩, h0, h1⟩ := h
    show zGC E md72 w gr_52_8.1 0 [(0, .inr (.inl 102)), (1, .inr (.inl 7)), (2, .inr (.inl 93)), (3, .inl d)] σ K
    refine zbdC (fun hb0 => ?_)
    have b4 : 0 ≤ σ 102 4 ∧ σ 102 4 ≤ 20 := zfC hb0 (t := 102) (f := 4) (by decide +kernel)
    refine zbdC (fun hb => zgoR (⟨rfl, rfl, rfl⟩ : zalt gr_52_8 (gm_52, 8)) (⟨rfl, rfl, rfl⟩ : zalt gr_55_8 (gm_55, 7)) X B zOKR_no i55 (vLA_ok X B) (by decide) [] [(15, [0, 1, 2, 3, 4, 5, 6])] (fun m => Nat.beq m.2.2.2.2.2.2.length 59) (by decide +kernel) ?_)
    refine ⟨show d = 8 from by omega, x, p, S, ⟨hT, cSn_f hS cSf_refl, hn⟩, fun k1 p1 o1 (σ1 : vS) hk1 (q1 : (∀ (b : Int) (L : List Int), qN x S false d b L (σ 102 4) p = (k1, p1, o1))) fl1 g1 => ?_, fun p1 (σ1 : vS) (T1 : cT x p1 σ1) g1 m1 (q1 : (∀ (b : Int) (L : List Int), qN x S false d b L (σ 102 4) p = qN x S true b b L (σ1 102 4) p1)) => ?_⟩
    · have F1 : cSf σ σ1 := cSf_tr cSf_refl g1
      show zGC E md72 w gr_52_8.1 15 [(0, .inr (.inl 102)), (1, .inr (.inl 7)), (2, .inr (.inl 93)), (3, .inl d), (4, .inl 0), (5, .inl 0), (6, .inl 0)] σ1 K
      exact vt_52z_8 X B i55 (h0 k1 p1 o1 σ1 hk1 (fun L => q1 d L) fl1 F1)
    · have F1 : cSf σ σ1 := cSf_tr cSf_refl g1
      show zGC E md72 w gr_52_8.1 15 [(0, .inr (.inl 102)), (1, .inr (.inl 7)), (2, .inr (.inl 93)), (3, .inl d), (4, .inl 1), (5, .inl 0), (6, .inl 0)] σ1 K
      exact vt_52l_8 X B i55 hd hS hn h0 h1 22 0 0 σ1 p1 (by omega) (by omega) (by omega) (by omega) T1 F1 (by omega) (fun L => q1 d L)
  · exact absurd h id
set_option maxRecDepth 16384 in
theorem vt_55_7 (X : zX gKX E) (B : zB E) (i55 : zOKR E md72 w gr_55_8 (vt55 8)) (i52 : zOKR E md72 w gr_52_8 (vt52 8)) : zOKR E md72 w gr_55_7 (vt55 7) := by
  intro vs σ K h
  unfold vt55 at h
  split at h
  · rename_i d
    obtain ⟨hd, x, p, S, ⟨hT, hS, hn⟩, h0, h1⟩ := h
    show zGC E md72 w gr_55_7.1 0 [(0, .inr (.inl 102)), (1, .inr (.inl 7)), (2, .inr (.inl 93)), (3, .inl d)] σ K
    refine zbdC (fun hb => zgoR (⟨rfl, rfl, rfl⟩ : zalt gr_52_8 (gm_52, 8)) (⟨rfl, rfl, rfl⟩ : zalt gr_55_8 (gm_55, 7)) X B i52 i55 (vLA_ok X B) (by decide) [] [] (fun m => false) (by decide +kernel) ?_)
    refine fun z (t1 : (z = 1 ∧ σ 7 4 = 5 ∧ σ 7 6 = 40) ∨ (z = 0 ∧ ¬ (σ 7 4 = 5 ∧ σ 7 6 = 40))) => ?_
    rcases t1 with ⟨rfl, t1⟩ | ⟨rfl, t1⟩
    · refine fun (r2 : Int) (t3 : (σ 7 4 = 2 ∧ r2 = σ 7 6) ∨ (¬ σ 7 4 = 2 ∧ r2 = -1)) => ?_
      refine And.intro (fun _ => ?_) (fun (q : 1 = 0) => absurd q (by decide))
      have f4 : 0 ≤ σ 102 4 ∧ σ 102 4 ≤ 20 := zfC hb (t := 102) (f := 4) (by decide +kernel)
      refine And.intro (fun (c5 : 20 ≤ (σ 102 4)) => ?_) (fun (c6 : (σ 102 4) < 20) => ?_)
      · refine And.intro (cT_fl hT (by omega)) ?_
        refine And.intro (show 0 ≤ 0 ∧ 0 ≤ 1 from by omega) ?_
        have hB : ¬ qbeg x p = -1 := by have := (cT_bg hT).1 t1; omega
        exact h0 4 p (σ 102 4) _ (by decide) (fun b L => qN_of (qop_4 hB (by omega)) (by decide)) (cFl_of hT) (cSf_cg cSf_refl cg_fl)
      · refine And.intro (fun (c7 : d ≤ 8) => ?_) (fun (c8 : 8 < d) => ?_)
        · refine And.intro (show -2147483648 ≤ ((σ 102 4) + 1) ∧ ((σ 102 4) + 1) ≤ 2147483647 from by omega) ?_
          refine And.intro (show 0 ≤ ((σ 102 4) + 1) ∧ ((σ 102 4) + 1) ≤ 20 from by omega) ?_
          have hlim : ¬ (σ 102 4 = 20 ∨ 8 < d) := by omega
          have hB : qbeg x p = 9 := (cT_bg hT).1 t1
          have hon : σ 102 4 + 1 ≤ 20 := by omega
          have hk1 : ¬ qkd x.1 x.2.1 x.2.2 p = 0 ∧ ¬ qkd x.1 x.2.1 x.2.2 p = 4 := by first | exact (cT_nks hT).1 (by omega) | omega
          refine And.intro (cT_nx ⟨(cT_t hT (by decide)), hk1⟩) (fun s1 (σ1 : vS) ha1 f1 t1_ => ?_)
          have T1 : cT x (qnx x.1 x.2.1 p) σ1 := cT_next (cT_t hT (by decide)) hk1 ha1 f1 t1_
          have F1 : cSf σ σ1 := cSf_cg (cSf_up (by decide) cSf_refl) (cg_of f1)
          clear ha1
          clear t3
          have N1 : σ1 102 4 = (σ 102 4) + 1 := (congrFun ((cg_of f1).1 102 (by decide)) 4).trans vup_eq
          refine And.intro (fun (q : 1 = 0) => absurd q (by decide)) (fun _ => ?_)
          refine And.intro (show -2147483648 ≤ (d + 1) ∧ (d + 1) ≤ 2147483647 from by omega) ?_
          have eA : ∀ (b : Int) (L : List Int), qN x S false d b L (σ 102 4) p = qN x S false (d + 1) (d + 1) (b :: L) (σ 102 4 + 1) (qnx x.1 x.2.1 p) := fun b L => qN_og hT hn (qop_9 hB hlim)
          refine ⟨show d + 1 = 8 from by omega, x, (qnx x.1 x.2.1 p), S, ⟨T1, cSn_f hS F1, hn⟩, fun k2 p2 o2 (σ2 : vS) hk2 (q2 : (∀ L : List Int, qN x S false (d + 1) (d + 1) L (σ1 102 4) (qnx x.1 x.2.1 p) = (k2, p2, o2))) fl2 g2 => ?_, fun p2 (σ2 : vS) (T2 : cT x p2 σ2) g2 m2 (q2 : (∀ L : List Int, qN x S false (d + 1) (d + 1) L (σ1 102 4) (qnx x.1 x.2.1 p) = qN x S true (d + 1) (d + 1) L (σ2 102 4) p2)) hj2 => ?_⟩
          · rw [N1] at q2
            have F2 : cSf σ σ2 := cSf_tr F1 g2
            refine And.intro (fun _ => ?_) (fun (q : ¬ 0 = 0) => absurd q (by decide))
            refine And.intro (show 0 ≤ 0 ∧ 0 ≤ 1 from by omega) ?_
            exact h0 k2 p2 o2 σ2 hk2 (fun b L => (eA b L).trans (q2 (b :: L))) fl2 F2
          · rw [N1] at q2 m2
            have F2 : cSf σ σ2 := cSf_tr F1 g2
            refine And.intro (fun (q : 1 = 0) => absurd q (by decide)) (fun _ => ?_)
            refine ⟨x, p2, T2, fun e3 (σ3 : vS) fl3 g3 => ?_, fun e3 (σ3 : vS) T3 g3 => ?_⟩
            · have F3 : cSf σ σ3 := cSf_cg F2 g3
              refine And.intro (fun _ => ?_) (fun (q : ¬ 0 = 0) => absurd q (by decide))
              refine And.intro (show 0 ≤ 0 ∧ 0 ≤ 1 from by omega) ?_
              exact h0 1 p2 (σ2 102 4) σ3 (by decide) (fun b L => ((eA b L).trans (q2 (b :: L))).trans (qN_nc hj2 e3)) fl3 F3
            · have F3 : cSf σ σ3 := cSf_cg F2 g3
              have N3 : σ3 102 4 = σ2 102 4 := congrFun (g3.1 102 (by decide)) 4
              refine And.intro (fun (q : 1 = 0) => absurd q (by decide)) (fun _ => ?_)
              refine And.intro (show 0 ≤ 1 ∧ 1 ≤ 1 from by omega) ?_
              exact h1 (qnx x.1 x.2.1 p2) σ3 T3 F3 (by omega) (fun b L => by rw [N3]; exact ((eA b L).trans (q2 (b :: L))).trans (qN_cl T2 hn hj2 e3))
        · refine And.intro (cT_fl hT (by omega)) ?_
          refine And.intro (show 0 ≤ 0 ∧ 0 ≤ 1 from by omega) ?_
          have hB : ¬ qbeg x p = -1 := by have := (cT_bg hT).1 t1; omega
          exact h0 4 p (σ 102 4) _ (by decide) (fun b L => qN_of (qop_4 hB (by omega)) (by decide)) (cFl_of hT) (cSf_cg cSf_refl cg_fl)
    · refine fun (r9 : Int) (t10 : (σ 7 4 = 2 ∧ r9 = σ 7 6) ∨ (¬ σ 7 4 = 2 ∧ r9 = -1)) => ?_
      refine And.intro (fun (q : ¬ 0 = 0) => absurd q (by decide)) (fun _ => ?_)
      refine And.intro (fun (c11 : r9 < 21) => ?_) (fun (c12 : 21 ≤ r9) => ?_)
      · refine And.intro (cT_fl hT (by omega)) ?_
        refine And.intro (show 0 ≤ 0 ∧ 0 ≤ 1 from by omega) ?_
        have hB : qbeg x p = -1 := (cT_bg hT).2.2.2 t1 (by omega)
        exact h0 1 p (σ 102 4) _ (by decide) (fun b L => qN_of (qop_1 hB) (by decide)) (cFl_of hT) (cSf_cg cSf_refl cg_fl)
      · refine And.intro (fun (c13 : r9 ≤ 29) => ?_) (fun (c14 : 29 < r9) => ?_)
        · have f15 : 0 ≤ σ 102 4 ∧ σ 102 4 ≤ 20 := zfC hb (t := 102) (f := 4) (by decide +kernel)
          refine And.intro (fun (c16 : 20 ≤ (σ 102 4)) => ?_) (fun (c17 : (σ 102 4) < 20) => ?_)
          · refine And.intro (cT_fl hT (by omega)) ?_
            refine And.intro (show 0 ≤ 0 ∧ 0 ≤ 1 from by omega) ?_
            have hB : ¬ qbeg x p = -1 := by
              by_cases e : σ 7 6 = 21
              · have := (cT_bg hT).2.1 (by omega); omega
              · have := (cT_bg hT).2.2.1 (by omega); omega
            exact h0 4 p (σ 102 4) _ (by decide) (fun b L => qN_of (qop_4 hB (by omega)) (by decide)) (cFl_of hT) (cSf_cg cSf_refl cg_fl)
          · refine And.intro (fun (c18 : d ≤ 8) => ?_) (fun (c19 : 8 < d) => ?_)
            · refine And.intro (show -2147483648 ≤ ((σ 102 4) + 1) ∧ ((σ 102 4) + 1) ≤ 2147483647 from by omega) ?_
              refine And.intro (show 0 ≤ ((σ 102 4) + 1) ∧ ((σ 102 4) + 1) ≤ 20 from by omega) ?_
              have hlim : ¬ (σ 102 4 = 20 ∨ 8 < d) := by omega
              have hon : σ 102 4 + 1 ≤ 20 := by omega
              have hr : σ 7 4 = 2 ∧ r9 = σ 7 6 := by omega
              have hk1 : ¬ qkd x.1 x.2.1 x.2.2 p = 0 ∧ ¬ qkd x.1 x.2.1 x.2.2 p = 4 := by first | exact (cT_nks hT).1 (by omega) | omega
              refine And.intro (cT_nx ⟨(cT_t hT (by decide)), hk1⟩) (fun s1 (σ1 : vS) ha1 f1 t1_ => ?_)
              have T1 : cT x (qnx x.1 x.2.1 p) σ1 := cT_next (cT_t hT (by decide)) hk1 ha1 f1 t1_
              have F1 : cSf σ σ1 := cSf_cg (cSf_up (by decide) cSf_refl) (cg_of f1)
              clear ha1
              clear t10 t1
              have N1 : σ1 102 4 = (σ 102 4) + 1 := (congrFun ((cg_of f1).1 102 (by decide)) 4).trans vup_eq
              refine And.intro (fun _ => ?_) (fun (q : ¬ 0 = 0) => absurd q (by decide))
              refine And.intro (And.intro (fun (c20 : r9 = 21) => ?_) (And.intro (fun (c21 : r9 = 22) => ?_) (And.intro (fun (c22 : r9 = 23) => ?_) (And.intro (fun (c23 : r9 = 24) => ?_) (And.intro (fun (c24 : r9 = 25) => ?_) (trivial)))))) (fun (c25 : r9 < 21 ∨ 25 < r9) => ?_)
              · refine And.intro (show -2147483648 ≤ (d + 1) ∧ (d + 1) ≤ 2147483647 from by omega) ?_
                have hB : qbeg x p = 8 := (cT_bg hT).2.1 (by omega)
                have eA : ∀ (b : Int) (L : List Int), qN x S false d b L (σ 102 4) p = qN x S false (d + 1) b L (σ 102 4 + 1) (qnx x.1 x.2.1 p) := fun b L => qN_og hT hn (qop_8 hB hlim)
                refine ⟨show d + 1 = 8 from by omega, x, (qnx x.1 x.2.1 p), S, ⟨T1, cSn_f hS F1, hn⟩, fun k2 p2 o2 (σ2 : vS) hk2 (q2 : (∀ (b : Int) (L : List Int), qN x S false (d + 1) b L (σ1 102 4) (qnx x.1 x.2.1 p) = (k2, p2, o2))) fl2 g2 => ?_, fun p2 (σ2 : vS) (T2 : cT x p2 σ2) g2 m2 (q2 : (∀ (b : Int) (L : List Int), qN x S false (d + 1) b L (σ1 102 4) (qnx x.1 x.2.1 p) = qN x S true b b L (σ2 102 4) p2)) => ?_⟩
                · rw [N1] at q2
                  have F2 : cSf σ σ2 := cSf_tr F1 g2
                  refine And.intro (show ((0 : Int) ≤ 21 ∧ 21 ≤ 29) ∧ 0 ≤ 0 ∧ 0 ≤ 6299 from by omega) (fun (σ3 : vS) g3 n3 => ?_)
                  have F3 : cSf σ σ3 := cSf_sg F2 g3
                  have y3 : σ3 7 4 = σ2 7 4 := congrFun (g3 7 (by decide)) 4
                  refine And.intro (show 0 ≤ 0 ∧ 0 ≤ 1 from by omega) ?_
                  exact h0 k2 p2 o2 σ3 hk2 (fun b L => (eA b L).trans (q2 b L)) (cFl_sg fl2 g3) F3
                · rw [N1] at q2 m2
                  have F2 : cSf σ σ2 := cSf_tr F1 g2
                  refine And.intro (show ((0 : Int) ≤ 21 ∧ 21 ≤ 29) ∧ 0 ≤ 0 ∧ 0 ≤ 6299 from by omega) (fun (σ3 : vS) g3 n3 => ?_)
                  have T3 : cT x p2 σ3 := cT_sg T2 g3
                  have F3 : cSf σ σ3 := cSf_sg F2 g3
                  have N3 : σ3 102 4 = σ2 102 4 := n3
                  have y3 : σ3 7 4 = σ2 7 4 := congrFun (g3 7 (by decide)) 4
                  refine And.intro (show 0 ≤ 1 ∧ 1 ≤ 1 from by omega) ?_
                  exact h1 p2 σ3 T3 F3 (by omega) (fun b L => by rw [N3]; exact (eA b L).trans (q2 b L))
              · refine And.intro (show ((0 : Int) ≤ r9 ∧ r9 ≤ 29) ∧ 0 ≤ 0 ∧ 0 ≤ 6299 from by omega) (fun (σ2 : vS) g2 n2 => ?_)
                have T2 : cT x (qnx x.1 x.2.1 p) σ2 := cT_sg T1 g2
                have F2 : cSf σ σ2 := cSf_sg F1 g2
                have N2 : σ2 102 4 = (σ 102 4) + 1 := n2.trans N1
                have y2 : σ2 7 4 = σ1 7 4 := congrFun (g2 7 (by decide)) 4
                refine And.intro (show 0 ≤ 1 ∧ 1 ≤ 1 from by omega) ?_
                have hB := (cT_bg hT).2.2.1 (by omega)
                exact h1 (qnx x.1 x.2.1 p) σ2 T2 F2 ⟨by rw [N2]; exact Int.le_refl _, by rw [N2]; exact hon⟩ (fun b L => by rw [N2]; exact (qN_og hT hn (qop_l (by omega) hlim)).trans qN_d)
              · refine And.intro (show ((0 : Int) ≤ r9 ∧ r9 ≤ 29) ∧ 0 ≤ 0 ∧ 0 ≤ 6299 from by omega) (fun (σ2 : vS) g2 n2 => ?_)
                have T2 : cT x (qnx x.1 x.2.1 p) σ2 := cT_sg T1 g2
                have F2 : cSf σ σ2 := cSf_sg F1 g2
                have N2 : σ2 102 4 = (σ 102 4) + 1 := n2.trans N1
                have y2 : σ2 7 4 = σ1 7 4 := congrFun (g2 7 (by decide)) 4
                refine And.intro (show 0 ≤ 1 ∧ 1 ≤ 1 from by omega) ?_
                have hB := (cT_bg hT).2.2.1 (by omega)
                exact h1 (qnx x.1 x.2.1 p) σ2 T2 F2 ⟨by rw [N2]; exact Int.le_refl _, by rw [N2]; exact hon⟩ (fun b L => by rw [N2]; exact (qN_og hT hn (qop_l (by omega) hlim)).trans qN_d)
              · have hB : qbeg x p = 2 := by have := (cT_bg hT).2.2.1 (by omega); omega
                obtain ⟨r1, r2, r3⟩ := qof_b (x := x) (S := S) (p := (qnx x.1 x.2.1 p)) hS.2 (k := 2) (by omega)
                have eM : ∀ (b : Int) (L : List Int), qop x S.2.2 (S.2.1 0) (S.2.1 1) d b L (σ 102 4) p = if (qofn x S.2.2 (S.2.1 0) (S.2.1 1) 2 (qnx x.1 x.2.1 p)) < 0 then (-(qofn x S.2.2 (S.2.1 0) (S.2.1 1) 2 (qnx x.1 x.2.1 p)), ((qnx x.1 x.2.1 p), true, d, b, L, σ 102 4 + 1)) else (0, (qnx x.1 x.2.1 (qnx x.1 x.2.1 p), true, d, b, L, σ 102 4 + 1)) := fun b L => by
                  have e := qop_m (x := x) (nm := S.2.2) (mh := S.2.1 0) (mo := S.2.1 1) (d := d) (b := b) (L := L) (o := σ 102 4) (p := p) (by omega) hlim
                  rw [hB] at e
                  exact e
                refine ⟨by omega, x, ((qnx x.1 x.2.1 p), S.2), S.2.1 1, T1, (cSn_f hS F1).1, hS.2, fun q => absurd q (by decide), fun _ => ⟨rfl, fun c2 (σ2 : vS) fl2 g2 => ?_, fun c2 => ?_⟩, fun q => absurd q (by decide)⟩
                · clear r3
                  have c2 : (qofn x S.2.2 (S.2.1 0) (S.2.1 1) 2 (qnx x.1 x.2.1 p)) < 0 := c2
                  have fl2 : cFl x (-(qofn x S.2.2 (S.2.1 0) (S.2.1 1) 2 (qnx x.1 x.2.1 p))) (qnx x.1 x.2.1 p) σ2 := fl2
                  have F2 : cSf σ σ2 := cSf_cg F1 g2
                  refine And.intro (fun (q : ¬ (-1) = (-1)) => absurd q (by decide)) (fun _ => ?_)
                  refine And.intro (show 0 ≤ 0 ∧ 0 ≤ 1 from by omega) ?_
                  refine And.intro (show 0 ≤ 0 ∧ 0 ≤ 1 from by omega) ?_
                  exact h0 (-(qofn x S.2.2 (S.2.1 0) (S.2.1 1) 2 (qnx x.1 x.2.1 p))) (qnx x.1 x.2.1 p) (σ 102 4 + 1) σ2 (by omega) (fun b L => qN_of ((eM b L).trans (if_pos c2)) (by omega)) fl2 F2
                · have c2 : 0 ≤ (qofn x S.2.2 (S.2.1 0) (S.2.1 1) 2 (qnx x.1 x.2.1 p)) := c2
                  have kq2 := r3 c2
                  clear r3
                  have eR26 : qlk x 6 (S.2.1 1) ((qnx x.1 x.2.1 p), S.2) = (qofn x S.2.2 (S.2.1 0) (S.2.1 1) 2 (qnx x.1 x.2.1 p)) := rfl
                  rw [eR26]
                  refine And.intro (fun (c27 : ¬ ((qofn x S.2.2 (S.2.1 0) (S.2.1 1) 2 (qnx x.1 x.2.1 p))) = (-1)) => ?_) (fun (c28 : ((qofn x S.2.2 (S.2.1 0) (S.2.1 1) 2 (qnx x.1 x.2.1 p))) = (-1)) => ?_)
                  · refine And.intro (show ((0 : Int) ≤ r9 ∧ r9 ≤ 29) ∧ 0 ≤ ((qofn x S.2.2 (S.2.1 0) (S.2.1 1) 2 (qnx x.1 x.2.1 p))) ∧ ((qofn x S.2.2 (S.2.1 0) (S.2.1 1) 2 (qnx x.1 x.2.1 p))) ≤ 6299 from by omega) (fun (σ2 : vS) g2 n2 => ?_)
                    have T2 : cT x (qnx x.1 x.2.1 p) σ2 := cT_sg T1 g2
                    have F2 : cSf σ σ2 := cSf_sg F1 g2
                    have N2 : σ2 102 4 = (σ 102 4) + 1 := n2.trans N1
                    have y2 : σ2 7 4 = σ1 7 4 := congrFun (g2 7 (by decide)) 4
                    have hk3 : ¬ qkd x.1 x.2.1 x.2.2 (qnx x.1 x.2.1 p) = 0 ∧ ¬ qkd x.1 x.2.1 x.2.2 (qnx x.1 x.2.1 p) = 4 := by first | exact (cT_nks T2).1 (by omega) | omega
                    refine And.intro (cT_nx ⟨T2, hk3⟩) (fun s3 (σ3 : vS) ha3 f3 t3_ => ?_)
                    have T3 : cT x (qnx x.1 x.2.1 (qnx x.1 x.2.1 p)) σ3 := cT_next T2 hk3 ha3 f3 t3_
                    have F3 : cSf σ σ3 := cSf_cg F2 (cg_of f3)
                    clear ha3
                    have N3 : σ3 102 4 = (σ 102 4) + 1 := (congrFun ((cg_of f3).1 102 (by decide)) 4).trans N2
                    refine And.intro (show 0 ≤ 1 ∧ 1 ≤ 1 from by omega) ?_
                    refine And.intro (show 0 ≤ 1 ∧ 1 ≤ 1 from by omega) ?_
                    exact h1 (qnx x.1 x.2.1 (qnx x.1 x.2.1 p)) σ3 T3 F3 ⟨by rw [N3]; exact Int.le_refl _, by rw [N3]; exact hon⟩ (fun b L => by rw [N3]; exact (qN_og hT hn ((eM b L).trans (if_neg (by omega)))).trans qN_d)
                  · refine And.intro (show 0 ≤ 0 ∧ 0 ≤ 1 from by omega) ?_
                    refine And.intro (show 0 ≤ 0 ∧ 0 ≤ 1 from by omega) ?_
                    exfalso; omega
              · have hB : qbeg x p = 3 := by have := (cT_bg hT).2.2.1 (by omega); omega
                obtain ⟨r1, r2, r3⟩ := qof_b (x := x) (S := S) (p := (qnx x.1 x.2.1 p)) hS.2 (k := 3) (by omega)
                have eM : ∀ (b : Int) (L : List Int), qop x S.2.2 (S.2.1 0) (S.2.1 1) d b L (σ 102 4) p = if (qofn x S.2.2 (S.2.1 0) (S.2.1 1) 3 (qnx x.1 x.2.1 p)) < 0 then (-(qofn x S.2.2 (S.2.1 0) (S.2.1 1) 3 (qnx x.1 x.2.1 p)), ((qnx x.1 x.2.1 p), true, d, b, L, σ 102 4 + 1)) else (0, (qnx x.1 x.2.1 (qnx x.1 x.2.1 p), true, d, b, L, σ 102 4 + 1)) := fun b L => by
                  have e := qop_m (x := x) (nm := S.2.2) (mh := S.2.1 0) (mo := S.2.1 1) (d := d) (b := b) (L := L) (o := σ 102 4) (p := p) (by omega) hlim
                  rw [hB] at e
                  exact e
                refine ⟨by omega, x, ((qnx x.1 x.2.1 p), S.2), S.2.1 0, T1, (cSn_f hS F1).1, hS.2, fun _ => ⟨rfl, fun c2 (σ2 : vS) fl2 g2 => ?_, fun c2 => ?_⟩, fun q => absurd q (by decide), fun q => absurd q (by decide)⟩
                · clear r3
                  have c2 : (qofn x S.2.2 (S.2.1 0) (S.2.1 1) 3 (qnx x.1 x.2.1 p)) < 0 := c2
                  have fl2 : cFl x (-(qofn x S.2.2 (S.2.1 0) (S.2.1 1) 3 (qnx x.1 x.2.1 p))) (qnx x.1 x.2.1 p) σ2 := fl2
                  have F2 : cSf σ σ2 := cSf_cg F1 g2
                  refine And.intro (fun (q : ¬ (-1) = (-1)) => absurd q (by decide)) (fun _ => ?_)
                  refine And.intro (show 0 ≤ 0 ∧ 0 ≤ 1 from by omega) ?_
                  refine And.intro (show 0 ≤ 0 ∧ 0 ≤ 1 from by omega) ?_
                  exact h0 (-(qofn x S.2.2 (S.2.1 0) (S.2.1 1) 3 (qnx x.1 x.2.1 p))) (qnx x.1 x.2.1 p) (σ 102 4 + 1) σ2 (by omega) (fun b L => qN_of ((eM b L).trans (if_pos c2)) (by omega)) fl2 F2
                · have c2 : 0 ≤ (qofn x S.2.2 (S.2.1 0) (S.2.1 1) 3 (qnx x.1 x.2.1 p)) := c2
                  have kq2 := r3 c2
                  clear r3
                  have eR29 : qlk x 0 (S.2.1 0) ((qnx x.1 x.2.1 p), S.2) = (qofn x S.2.2 (S.2.1 0) (S.2.1 1) 3 (qnx x.1 x.2.1 p)) := rfl
                  rw [eR29]
                  refine And.intro (fun (c30 : ¬ ((qofn x S.2.2 (S.2.1 0) (S.2.1 1) 3 (qnx x.1 x.2.1 p))) = (-1)) => ?_) (fun (c31 : ((qofn x S.2.2 (S.2.1 0) (S.2.1 1) 3 (qnx x.1 x.2.1 p))) = (-1)) => ?_)
                  · refine And.intro (show ((0 : Int) ≤ r9 ∧ r9 ≤ 29) ∧ 0 ≤ ((qofn x S.2.2 (S.2.1 0) (S.2.1 1) 3 (qnx x.1 x.2.1 p))) ∧ ((qofn x S.2.2 (S.2.1 0) (S.2.1 1) 3 (qnx x.1 x.2.1 p))) ≤ 6299 from by omega) (fun (σ2 : vS) g2 n2 => ?_)
                    have T2 : cT x (qnx x.1 x.2.1 p) σ2 := cT_sg T1 g2
                    have F2 : cSf σ σ2 := cSf_sg F1 g2
                    have N2 : σ2 102 4 = (σ 102 4) + 1 := n2.trans N1
                    have y2 : σ2 7 4 = σ1 7 4 := congrFun (g2 7 (by decide)) 4
                    have hk3 : ¬ qkd x.1 x.2.1 x.2.2 (qnx x.1 x.2.1 p) = 0 ∧ ¬ qkd x.1 x.2.1 x.2.2 (qnx x.1 x.2.1 p) = 4 := by first | exact (cT_nks T2).1 (by omega) | omega
                    refine And.intro (cT_nx ⟨T2, hk3⟩) (fun s3 (σ3 : vS) ha3 f3 t3_ => ?_)
                    have T3 : cT x (qnx x.1 x.2.1 (qnx x.1 x.2.1 p)) σ3 := cT_next T2 hk3 ha3 f3 t3_
                    have F3 : cSf σ σ3 := cSf_cg F2 (cg_of f3)
                    clear ha3
                    have N3 : σ3 102 4 = (σ 102 4) + 1 := (congrFun ((cg_of f3).1 102 (by decide)) 4).trans N2
                    refine And.intro (show 0 ≤ 1 ∧ 1 ≤ 1 from by omega) ?_
                    refine And.intro (show 0 ≤ 1 ∧ 1 ≤ 1 from by omega) ?_
                    exact h1 (qnx x.1 x.2.1 (qnx x.1 x.2.1 p)) σ3 T3 F3 ⟨by rw [N3]; exact Int.le_refl _, by rw [N3]; exact hon⟩ (fun b L => by rw [N3]; exact (qN_og hT hn ((eM b L).trans (if_neg (by omega)))).trans qN_d)
                  · refine And.intro (show 0 ≤ 0 ∧ 0 ≤ 1 from by omega) ?_
                    refine And.intro (show 0 ≤ 0 ∧ 0 ≤ 1 from by omega) ?_
                    exfalso; omega
              · refine fun z (t32 : (z = 1 ∧ σ1 7 4 = 5 ∧ σ1 7 6 = 60) ∨ (z = 0 ∧ ¬ (σ1 7 4 = 5 ∧ σ1 7 6 = 60))) => ?_
                rcases t32 with ⟨rfl, t32⟩ | ⟨rfl, t32⟩
                · refine And.intro (fun _ => ?_) (fun (q : 1 = 0) => absurd q (by decide))
                  have hk2 : ¬ qkd x.1 x.2.1 x.2.2 (qnx x.1 x.2.1 p) = 0 ∧ ¬ qkd x.1 x.2.1 x.2.2 (qnx x.1 x.2.1 p) = 4 := by first | exact (cT_nks T1).1 (by omega) | omega
                  refine And.intro (cT_nx ⟨T1, hk2⟩) (fun s2 (σ2 : vS) ha2 f2 t2_ => ?_)
                  have T2 : cT x (qnx x.1 x.2.1 (qnx x.1 x.2.1 p)) σ2 := cT_next T1 hk2 ha2 f2 t2_
                  have F2 : cSf σ σ2 := cSf_cg F1 (cg_of f2)
                  clear ha2
                  have N2 : σ2 102 4 = (σ 102 4) + 1 := (congrFun ((cg_of f2).1 102 (by decide)) 4).trans N1
                  have vu33 := cT_v T2
                  refine ⟨(cT_fl T2 (by decide : (0 : Int) ≤ 1 ∧ (1 : Int) ≤ 4)).2, fun cu33 => ?_, fun cu33 du33 => ?_, fun cu33 du33 eu33 => ?_⟩
                  · refine And.intro (fun (q : ¬ (-1) = (-1)) => absurd q (by decide)) (fun _ => ?_)
                    refine And.intro (show 0 ≤ 0 ∧ 0 ≤ 1 from by omega) ?_
                    refine And.intro (show 0 ≤ 0 ∧ 0 ≤ 1 from by omega) ?_
                    have hB := (cT_bg hT).2.2.1 (by omega)
                    have e3 : qsg3 x (qnx x.1 x.2.1 p) = true := (cT_s3 T1).mpr (by omega)
                    have e4 : ¬ qkd x.1 x.2.1 x.2.2 (qnx x.1 x.2.1 (qnx x.1 x.2.1 p)) = 2 := fun q => cu33 ((cT_nks T2).2.1.mp q)
                    exact h0 1 (qnx x.1 x.2.1 (qnx x.1 x.2.1 p)) (σ 102 4 + 1) _ (by decide) (fun b L => qN_of ((qop_s (by omega) hlim).trans ((if_pos e3).trans (if_neg e4))) (by decide)) (cFl_of T2) (cSf_cg F2 cg_fl)
                  · exfalso; have := vu33 cu33; omega
                  · have wu33 := vu33 cu33
                    clear vu33 du33 eu33
                    refine And.intro (fun (c34 : ¬ (σ2 7 6) = (-1)) => ?_) (fun (c35 : (σ2 7 6) = (-1)) => ?_)
                    · refine And.intro (show -2147483648 ≤ ((σ1 7 6) * 100) ∧ ((σ1 7 6) * 100) ≤ 2147483647 from by omega) ?_
                      refine And.intro (show -2147483648 ≤ (((σ1 7 6) * 100) + (σ2 7 6)) ∧ (((σ1 7 6) * 100) + (σ2 7 6)) ≤ 2147483647 from by omega) ?_
                      refine And.intro (show ((0 : Int) ≤ r9 ∧ r9 ≤ 29) ∧ 0 ≤ (((σ1 7 6) * 100) + (σ2 7 6)) ∧ (((σ1 7 6) * 100) + (σ2 7 6)) ≤ 6299 from by omega) (fun (σ3 : vS) g3 n3 => ?_)
                      have T3 : cT x (qnx x.1 x.2.1 (qnx x.1 x.2.1 p)) σ3 := cT_sg T2 g3
                      have F3 : cSf σ σ3 := cSf_sg F2 g3
                      have N3 : σ3 102 4 = (σ 102 4) + 1 := n3.trans N2
                      have y3 : σ3 7 4 = σ2 7 4 := congrFun (g3 7 (by decide)) 4
                      have hk4 : ¬ qkd x.1 x.2.1 x.2.2 (qnx x.1 x.2.1 (qnx x.1 x.2.1 p)) = 0 ∧ ¬ qkd x.1 x.2.1 x.2.2 (qnx x.1 x.2.1 (qnx x.1 x.2.1 p)) = 4 := by first | exact (cT_nks T3).1 (by omega) | omega
                      refine And.intro (cT_nx ⟨T3, hk4⟩) (fun s4 (σ4 : vS) ha4 f4 t4_ => ?_)
                      have T4 : cT x (qnx x.1 x.2.1 (qnx x.1 x.2.1 (qnx x.1 x.2.1 p))) σ4 := cT_next T3 hk4 ha4 f4 t4_
                      have F4 : cSf σ σ4 := cSf_cg F3 (cg_of f4)
                      clear ha4
                      have N4 : σ4 102 4 = (σ 102 4) + 1 := (congrFun ((cg_of f4).1 102 (by decide)) 4).trans N3
                      refine And.intro (show 0 ≤ 1 ∧ 1 ≤ 1 from by omega) ?_
                      refine And.intro (show 0 ≤ 1 ∧ 1 ≤ 1 from by omega) ?_
                      have hB := (cT_bg hT).2.2.1 (by omega)
                      have e3 : qsg3 x (qnx x.1 x.2.1 p) = true := (cT_s3 T1).mpr (by omega)
                      have e4 : qkd x.1 x.2.1 x.2.2 (qnx x.1 x.2.1 (qnx x.1 x.2.1 p)) = 2 := (cT_nks T2).2.1.mpr cu33
                      exact h1 (qnx x.1 x.2.1 (qnx x.1 x.2.1 (qnx x.1 x.2.1 p))) σ4 T4 F4 ⟨by rw [N4]; exact Int.le_refl _, by rw [N4]; exact hon⟩ (fun b L => by rw [N4]; exact (qN_og hT hn ((qop_s (by omega) hlim).trans ((if_pos e3).trans (if_pos e4)))).trans qN_d)
                    · refine And.intro (show 0 ≤ 0 ∧ 0 ≤ 1 from by omega) ?_
                      refine And.intro (show 0 ≤ 0 ∧ 0 ≤ 1 from by omega) ?_
                      exfalso; omega
                · refine And.intro (fun (q : ¬ 0 = 0) => absurd q (by decide)) (fun _ => ?_)
                  refine fun z (t36 : (z = 1 ∧ σ1 7 4 = 5 ∧ σ1 7 6 = 61) ∨ (z = 0 ∧ ¬ (σ1 7 4 = 5 ∧ σ1 7 6 = 61))) => ?_
                  rcases t36 with ⟨rfl, t36⟩ | ⟨rfl, t36⟩
                  · clear t32
                    refine And.intro (fun _ => ?_) (fun (q : 1 = 0) => absurd q (by decide))
                    have hk2 : ¬ qkd x.1 x.2.1 x.2.2 (qnx x.1 x.2.1 p) = 0 ∧ ¬ qkd x.1 x.2.1 x.2.2 (qnx x.1 x.2.1 p) = 4 := by first | exact (cT_nks T1).1 (by omega) | omega
                    refine And.intro (cT_nx ⟨T1, hk2⟩) (fun s2 (σ2 : vS) ha2 f2 t2_ => ?_)
                    have T2 : cT x (qnx x.1 x.2.1 (qnx x.1 x.2.1 p)) σ2 := cT_next T1 hk2 ha2 f2 t2_
                    have F2 : cSf σ σ2 := cSf_cg F1 (cg_of f2)
                    clear ha2
                    have N2 : σ2 102 4 = (σ 102 4) + 1 := (congrFun ((cg_of f2).1 102 (by decide)) 4).trans N1
                    have vu37 := cT_v T2
                    refine ⟨(cT_fl T2 (by decide : (0 : Int) ≤ 1 ∧ (1 : Int) ≤ 4)).2, fun cu37 => ?_, fun cu37 du37 => ?_, fun cu37 du37 eu37 => ?_⟩
                    · refine And.intro (fun (q : ¬ (-1) = (-1)) => absurd q (by decide)) (fun _ => ?_)
                      refine And.intro (show 0 ≤ 0 ∧ 0 ≤ 1 from by omega) ?_
                      refine And.intro (show 0 ≤ 0 ∧ 0 ≤ 1 from by omega) ?_
                      have hB := (cT_bg hT).2.2.1 (by omega)
                      have e3 : qsg3 x (qnx x.1 x.2.1 p) = true := (cT_s3 T1).mpr (by omega)
                      have e4 : ¬ qkd x.1 x.2.1 x.2.2 (qnx x.1 x.2.1 (qnx x.1 x.2.1 p)) = 2 := fun q => cu37 ((cT_nks T2).2.1.mp q)
                      exact h0 1 (qnx x.1 x.2.1 (qnx x.1 x.2.1 p)) (σ 102 4 + 1) _ (by decide) (fun b L => qN_of ((qop_s (by omega) hlim).trans ((if_pos e3).trans (if_neg e4))) (by decide)) (cFl_of T2) (cSf_cg F2 cg_fl)
                    · exfalso; have := vu37 cu37; omega
                    · have wu37 := vu37 cu37
                      clear vu37 du37 eu37
                      refine And.intro (fun (c38 : ¬ (σ2 7 6) = (-1)) => ?_) (fun (c39 : (σ2 7 6) = (-1)) => ?_)
                      · refine And.intro (show -2147483648 ≤ ((σ1 7 6) * 100) ∧ ((σ1 7 6) * 100) ≤ 2147483647 from by omega) ?_
                        refine And.intro (show -2147483648 ≤ (((σ1 7 6) * 100) + (σ2 7 6)) ∧ (((σ1 7 6) * 100) + (σ2 7 6)) ≤ 2147483647 from by omega) ?_
                        refine And.intro (show ((0 : Int) ≤ r9 ∧ r9 ≤ 29) ∧ 0 ≤ (((σ1 7 6) * 100) + (σ2 7 6)) ∧ (((σ1 7 6) * 100) + (σ2 7 6)) ≤ 6299 from by omega) (fun (σ3 : vS) g3 n3 => ?_)
                        have T3 : cT x (qnx x.1 x.2.1 (qnx x.1 x.2.1 p)) σ3 := cT_sg T2 g3
                        have F3 : cSf σ σ3 := cSf_sg F2 g3
                        have N3 : σ3 102 4 = (σ 102 4) + 1 := n3.trans N2
                        have y3 : σ3 7 4 = σ2 7 4 := congrFun (g3 7 (by decide)) 4
                        have hk4 : ¬ qkd x.1 x.2.1 x.2.2 (qnx x.1 x.2.1 (qnx x.1 x.2.1 p)) = 0 ∧ ¬ qkd x.1 x.2.1 x.2.2 (qnx x.1 x.2.1 (qnx x.1 x.2.1 p)) = 4 := by first | exact (cT_nks T3).1 (by omega) | omega
                        refine And.intro (cT_nx ⟨T3, hk4⟩) (fun s4 (σ4 : vS) ha4 f4 t4_ => ?_)
                        have T4 : cT x (qnx x.1 x.2.1 (qnx x.1 x.2.1 (qnx x.1 x.2.1 p))) σ4 := cT_next T3 hk4 ha4 f4 t4_
                        have F4 : cSf σ σ4 := cSf_cg F3 (cg_of f4)
                        clear ha4
                        have N4 : σ4 102 4 = (σ 102 4) + 1 := (congrFun ((cg_of f4).1 102 (by decide)) 4).trans N3
                        refine And.intro (show 0 ≤ 1 ∧ 1 ≤ 1 from by omega) ?_
                        refine And.intro (show 0 ≤ 1 ∧ 1 ≤ 1 from by omega) ?_
                        have hB := (cT_bg hT).2.2.1 (by omega)
                        have e3 : qsg3 x (qnx x.1 x.2.1 p) = true := (cT_s3 T1).mpr (by omega)
                        have e4 : qkd x.1 x.2.1 x.2.2 (qnx x.1 x.2.1 (qnx x.1 x.2.1 p)) = 2 := (cT_nks T2).2.1.mpr cu37
                        exact h1 (qnx x.1 x.2.1 (qnx x.1 x.2.1 (qnx x.1 x.2.1 p))) σ4 T4 F4 ⟨by rw [N4]; exact Int.le_refl _, by rw [N4]; exact hon⟩ (fun b L => by rw [N4]; exact (qN_og hT hn ((qop_s (by omega) hlim).trans ((if_pos e3).trans (if_pos e4)))).trans qN_d)
                      · refine And.intro (show 0 ≤ 0 ∧ 0 ≤ 1 from by omega) ?_
                        refine And.intro (show 0 ≤ 0 ∧ 0 ≤ 1 from by omega) ?_
                        exfalso; omega
                  · refine And.intro (fun (q : ¬ 0 = 0) => absurd q (by decide)) (fun _ => ?_)
                    refine fun z (t40 : (z = 1 ∧ σ1 7 4 = 5 ∧ σ1 7 6 = 62) ∨ (z = 0 ∧ ¬ (σ1 7 4 = 5 ∧ σ1 7 6 = 62))) => ?_
                    rcases t40 with ⟨rfl, t40⟩ | ⟨rfl, t40⟩
                    · clear t32 t36
                      refine And.intro (fun _ => ?_) (fun (q : 1 = 0) => absurd q (by decide))
                      have hk2 : ¬ qkd x.1 x.2.1 x.2.2 (qnx x.1 x.2.1 p) = 0 ∧ ¬ qkd x.1 x.2.1 x.2.2 (qnx x.1 x.2.1 p) = 4 := by first | exact (cT_nks T1).1 (by omega) | omega
                      refine And.intro (cT_nx ⟨T1, hk2⟩) (fun s2 (σ2 : vS) ha2 f2 t2_ => ?_)
                      have T2 : cT x (qnx x.1 x.2.1 (qnx x.1 x.2.1 p)) σ2 := cT_next T1 hk2 ha2 f2 t2_
                      have F2 : cSf σ σ2 := cSf_cg F1 (cg_of f2)
                      clear ha2
                      have N2 : σ2 102 4 = (σ 102 4) + 1 := (congrFun ((cg_of f2).1 102 (by decide)) 4).trans N1
                      have vu41 := cT_v T2
                      refine ⟨(cT_fl T2 (by decide : (0 : Int) ≤ 1 ∧ (1 : Int) ≤ 4)).2, fun cu41 => ?_, fun cu41 du41 => ?_, fun cu41 du41 eu41 => ?_⟩
                      · refine And.intro (fun (q : ¬ (-1) = (-1)) => absurd q (by decide)) (fun _ => ?_)
                        refine And.intro (show 0 ≤ 0 ∧ 0 ≤ 1 from by omega) ?_
                        refine And.intro (show 0 ≤ 0 ∧ 0 ≤ 1 from by omega) ?_
                        have hB := (cT_bg hT).2.2.1 (by omega)
                        have e3 : qsg3 x (qnx x.1 x.2.1 p) = true := (cT_s3 T1).mpr (by omega)
                        have e4 : ¬ qkd x.1 x.2.1 x.2.2 (qnx x.1 x.2.1 (qnx x.1 x.2.1 p)) = 2 := fun q => cu41 ((cT_nks T2).2.1.mp q)
                        exact h0 1 (qnx x.1 x.2.1 (qnx x.1 x.2.1 p)) (σ 102 4 + 1) _ (by decide) (fun b L => qN_of ((qop_s (by omega) hlim).trans ((if_pos e3).trans (if_neg e4))) (by decide)) (cFl_of T2) (cSf_cg F2 cg_fl)
                      · exfalso; have := vu41 cu41; omega
                      · have wu41 := vu41 cu41
                        clear vu41 du41 eu41
                        refine And.intro (fun (c42 : ¬ (σ2 7 6) = (-1)) => ?_) (fun (c43 : (σ2 7 6) = (-1)) => ?_)
                        · refine And.intro (show -2147483648 ≤ ((σ1 7 6) * 100) ∧ ((σ1 7 6) * 100) ≤ 2147483647 from by omega) ?_
                          refine And.intro (show -2147483648 ≤ (((σ1 7 6) * 100) + (σ2 7 6)) ∧ (((σ1 7 6) * 100) + (σ2 7 6)) ≤ 2147483647 from by omega) ?_
                          refine And.intro (show ((0 : Int) ≤ r9 ∧ r9 ≤ 29) ∧ 0 ≤ (((σ1 7 6) * 100) + (σ2 7 6)) ∧ (((σ1 7 6) * 100) + (σ2 7 6)) ≤ 6299 from by omega) (fun (σ3 : vS) g3 n3 => ?_)
                          have T3 : cT x (qnx x.1 x.2.1 (qnx x.1 x.2.1 p)) σ3 := cT_sg T2 g3
                          have F3 : cSf σ σ3 := cSf_sg F2 g3
                          have N3 : σ3 102 4 = (σ 102 4) + 1 := n3.trans N2
                          have y3 : σ3 7 4 = σ2 7 4 := congrFun (g3 7 (by decide)) 4
                          have hk4 : ¬ qkd x.1 x.2.1 x.2.2 (qnx x.1 x.2.1 (qnx x.1 x.2.1 p)) = 0 ∧ ¬ qkd x.1 x.2.1 x.2.2 (qnx x.1 x.2.1 (qnx x.1 x.2.1 p)) = 4 := by first | exact (cT_nks T3).1 (by omega) | omega
                          refine And.intro (cT_nx ⟨T3, hk4⟩) (fun s4 (σ4 : vS) ha4 f4 t4_ => ?_)
                          have T4 : cT x (qnx x.1 x.2.1 (qnx x.1 x.2.1 (qnx x.1 x.2.1 p))) σ4 := cT_next T3 hk4 ha4 f4 t4_
                          have F4 : cSf σ σ4 := cSf_cg F3 (cg_of f4)
                          clear ha4
                          have N4 : σ4 102 4 = (σ 102 4) + 1 := (congrFun ((cg_of f4).1 102 (by decide)) 4).trans N3
                          refine And.intro (show 0 ≤ 1 ∧ 1 ≤ 1 from by omega) ?_
                          refine And.intro (show 0 ≤ 1 ∧ 1 ≤ 1 from by omega) ?_
                          have hB := (cT_bg hT).2.2.1 (by omega)
                          have e3 : qsg3 x (qnx x.1 x.2.1 p) = true := (cT_s3 T1).mpr (by omega)
                          have e4 : qkd x.1 x.2.1 x.2.2 (qnx x.1 x.2.1 (qnx x.1 x.2.1 p)) = 2 := (cT_nks T2).2.1.mpr cu41
                          exact h1 (qnx x.1 x.2.1 (qnx x.1 x.2.1 (qnx x.1 x.2.1 p))) σ4 T4 F4 ⟨by rw [N4]; exact Int.le_refl _, by rw [N4]; exact hon⟩ (fun b L => by rw [N4]; exact (qN_og hT hn ((qop_s (by omega) hlim).trans ((if_pos e3).trans (if_pos e4)))).trans qN_d)
                        · refine And.intro (show 0 ≤ 0 ∧ 0 ≤ 1 from by omega) ?_
                          refine And.intro (show 0 ≤ 0 ∧ 0 ≤ 1 from by omega) ?_
                          exfalso; omega
                    · refine And.intro (fun (q : ¬ 0 = 0) => absurd q (by decide)) (fun _ => ?_)
                      refine And.intro (cT_fl T1 (by omega)) ?_
                      refine And.intro (show 0 ≤ 0 ∧ 0 ≤ 1 from by omega) ?_
                      refine And.intro (show 0 ≤ 0 ∧ 0 ≤ 1 from by omega) ?_
                      have hB := (cT_bg hT).2.2.1 (by omega)
                      have e3 : ¬ qsg3 x (qnx x.1 x.2.1 p) = true := fun q => by have := (cT_s3 T1).mp q; omega
                      exact h0 1 (qnx x.1 x.2.1 p) (σ 102 4 + 1) _ (by decide) (fun b L => qN_of ((qop_s (by omega) hlim).trans (if_neg e3)) (by decide)) (cFl_of T1) (cSf_cg F1 cg_fl)
            · refine And.intro (cT_fl hT (by omega)) ?_
              refine And.intro (show 0 ≤ 0 ∧ 0 ≤ 1 from by omega) ?_
              have hB : ¬ qbeg x p = -1 := by
                by_cases e : σ 7 6 = 21
                · have := (cT_bg hT).2.1 (by omega); omega
                · have := (cT_bg hT).2.2.1 (by omega); omega
              exact h0 4 p (σ 102 4) _ (by decide) (fun b L => qN_of (qop_4 hB (by omega)) (by decide)) (cFl_of hT) (cSf_cg cSf_refl cg_fl)
        · refine And.intro (cT_fl hT (by omega)) ?_
          refine And.intro (show 0 ≤ 0 ∧ 0 ≤ 1 from by omega) ?_
          have hB : qbeg x p = -1 := (cT_bg hT).2.2.2 t1 (by omega)
          exact h0 1 p (σ 102 4) _ (by decide) (fun b L => qN_of (qop_1 hB) (by decide)) (cFl_of hT) (cSf_cg cSf_refl cg_fl)
  · exact absurd h id
theorem vt_52z_7 (X : zX gKX E) (B : zB E) (i55 : zOKR E md72 w gr_55_7 (vt55 7)) {d bo i : Int} (hK : K (some (.inl 0)) σ) : zGC E md72 w gr_52_7.1 15 [(0, .inr (.inl 102)), (1, .inr (.inl 7)), (2, .inr (.inl 93)), (3, .inl d), (4, .inl 0), (5, .inl bo), (6, .inl i)] σ K := by
  refine zbdC (fun hb => zgoR (⟨rfl, rfl, rfl⟩ : zalt gr_52_7 (gm_52, 8)) (⟨rfl, rfl, rfl⟩ : zalt gr_55_7 (gm_55, 7)) X B zOKR_no i55 (vLA_ok X B) (by decide) [] [(15, [0, 1, 2, 3, 4, 5, 6])] (fun m => Nat.beq m.2.2.2.2.2.2.length 59) (by decide +kernel) ?_)
  refine And.intro (fun _ => ?_) (fun (q : ¬ 0 = 0) => absurd q (by decide))
  refine And.intro (show 0 ≤ 0 ∧ 0 ≤ 1 from by omega) ?_
  exact hK
set_option maxRecDepth 16384 in
theorem vt_52l_7 (X : zX gKX E) (B : zB E) (i55 : zOKR E md72 w gr_55_7 (vt55 7)) {d o0 p0 : Int} {x : qX} {S : qS} {σ0 : vS} (hd : d = 7) (hS0 : cSn S σ0) (hn : x.2.1 ≤ 940) (h0 : ∀ (k p2 o2 : Int) (σ2 : vS), ¬ k = 0 → (∀ L : List Int, qN x S false d d L o0 p0 = (k, p2, o2)) → cFl x k p2 σ2 → cSf σ0 σ2 → K (some (.inl 0)) σ2) (h1 : ∀ (p2 : Int) (σ2 : vS), cT x p2 σ2 → cSf σ0 σ2 → (o0 + 1 ≤ σ2 102 4 ∧ σ2 102 4 ≤ 20) → (∀ L : List Int, qN x S false d d L o0 p0 = qN x S true d d L (σ2 102 4) p2) → ¬ (qisw x p2 (qrw 20) = true ∨ qisw x p2 (qrw 19) = true) → K (some (.inl 1)) σ2) : ∀ (m : Nat) (bo i : Int) (σ : vS) (p : Int), 21 - i < (m : Int) → 0 ≤ i → (0 ≤ bo ∧ bo ≤ 1) → i + 1 ≤ σ 102 4 → cT x p σ → cSf σ0 σ → (o0 + 1 ≤ σ 102 4 ∧ σ 102 4 ≤ 20) → (∀ L : List Int, qN x S false d d L o0 p0 = qN x S true d d L (σ 102 4) p) → zGC E md72 w gr_52_7.1 15 [(0, .inr (.inl 102)), (1, .inr (.inl 7)), (2, .inr (.inl 93)), (3, .inl d), (4, .inl 1), (5, .inl bo), (6, .inl i)] σ K := by
  intro m
  induction m with
  | zero => intro bo i σ p h a c e; omega
  | succ m ih =>
    intro bo i σ p hm hi hbo hio hT hF ho hq
    have hS := cSn_f hS0 hF
    refine zbdC (fun hb => zgoR (⟨rfl, rfl, rfl⟩ : zalt gr_52_7 (gm_52, 8)) (⟨rfl, rfl, rfl⟩ : zalt gr_55_7 (gm_55, 7)) X B zOKR_no i55 (vLA_ok X B) (by decide) [] [(15, [0, 1, 2, 3, 4, 5, 6])] (fun m => Nat.beq m.2.2.2.2.2.2.length 59) (by decide +kernel) ?_)
    refine And.intro (fun (q : 1 = 0) => absurd q (by decide)) (fun _ => ?_)
    refine And.intro (fun (c1 : 20 < i) => ?_) (fun (c2 : i ≤ 20) => ?_)
    · refine And.intro (show 0 ≤ 0 ∧ 0 ≤ 1 from by omega) ?_
      exfalso; omega
    · refine fun (r3 : Int) (t4 : (σ 7 4 = 2 ∧ r3 = σ 7 6) ∨ (¬ σ 7 4 = 2 ∧ r3 = -1)) => ?_
      refine And.intro (fun (c5 : bo = 0) => ?_) (fun (c6 : ¬ bo = 0) => ?_)
      · refine And.intro (fun (c7 : r3 = 20) => ?_) (fun (c8 : ¬ r3 = 20) => ?_)
        · have hj : qisw x p (qrw 20) = true ∨ qisw x p (qrw 19) = true := by
            by_cases e : r3 = 20
            · exact Or.inl ((cT_kws hT (by decide)).mpr (by omega))
            · exact Or.inr ((cT_kws hT (by decide)).mpr (by omega))
          have eJ : ∀ L : List Int, qN x S true d d L (σ 102 4) p = qN x S false d d L (σ 102 4) (qnx x.1 x.2.1 p) := fun L => qN_jn hT hn hj
          have hkj : qkd x.1 x.2.1 x.2.2 p = 1 := hj.elim qisw_k qisw_k
          have hk1 : ¬ qkd x.1 x.2.1 x.2.2 p = 0 ∧ ¬ qkd x.1 x.2.1 x.2.2 p = 4 := by first | exact (cT_nks hT).1 (by omega) | omega
          refine And.intro (cT_nx ⟨hT, hk1⟩) (fun s1 (σ1 : vS) ha1 f1 t1_ => ?_)
          have T1 : cT x (qnx x.1 x.2.1 p) σ1 := cT_next hT hk1 ha1 f1 t1_
          have F1 : cSf σ σ1 := cSf_cg cSf_refl (cg_of f1)
          clear ha1
          have N1 : σ1 102 4 = σ 102 4 := congrFun ((cg_of f1).1 102 (by decide)) 4
          refine ⟨show d = 7 from by omega, x, (qnx x.1 x.2.1 p), S, ⟨T1, cSn_f hS F1, hn⟩, fun k2 p2 o2 (σ2 : vS) hk2 (q2 : (∀ (b : Int) (L : List Int), qN x S false d b L (σ1 102 4) (qnx x.1 x.2.1 p) = (k2, p2, o2))) fl2 g2 => ?_, fun p2 (σ2 : vS) (T2 : cT x p2 σ2) g2 m2 (q2 : (∀ (b : Int) (L : List Int), qN x S false d b L (σ1 102 4) (qnx x.1 x.2.1 p) = qN x S true b b L (σ2 102 4) p2)) => ?_⟩
          · rw [N1] at q2
            have F2 : cSf σ σ2 := cSf_tr F1 g2
            refine And.intro (fun (q : ¬ r3 = 20) => (by exfalso; omega)) (fun _ => ?_)
            refine And.intro (show ((0 : Int) ≤ 20 ∧ 20 ≤ 29) ∧ 0 ≤ 0 ∧ 0 ≤ 6299 from by omega) (fun (σ3 : vS) g3 n3 => ?_)
            have F3 : cSf σ σ3 := cSf_sg F2 g3
            have y3 : σ3 7 4 = σ2 7 4 := congrFun (g3 7 (by decide)) 4
            refine And.intro (show -2147483648 ≤ (i + 1) ∧ (i + 1) ≤ 2147483647 from by omega) ?_
            show zGC E md72 w gr_52_7.1 15 [(0, .inr (.inl 102)), (1, .inr (.inl 7)), (2, .inr (.inl 93)), (3, .inl d), (4, .inl 0), (5, .inl bo), (6, .inl (i + 1))] σ3 K
            exact vt_52z_7 X B i55 (h0 k2 p2 o2 σ3 hk2 (fun L => ((hq L).trans (eJ L)).trans (q2 d L)) (cFl_sg fl2 g3) (cSf_tr hF F3))
          · rw [N1] at q2 m2
            have F2 : cSf σ σ2 := cSf_tr F1 g2
            refine And.intro (fun (q : ¬ r3 = 20) => (by exfalso; omega)) (fun _ => ?_)
            refine And.intro (show ((0 : Int) ≤ 20 ∧ 20 ≤ 29) ∧ 0 ≤ 0 ∧ 0 ≤ 6299 from by omega) (fun (σ3 : vS) g3 n3 => ?_)
            have T3 : cT x p2 σ3 := cT_sg T2 g3
            have F3 : cSf σ σ3 := cSf_sg F2 g3
            have N3 : σ3 102 4 = σ2 102 4 := n3
            have y3 : σ3 7 4 = σ2 7 4 := congrFun (g3 7 (by decide)) 4
            refine And.intro (show -2147483648 ≤ (i + 1) ∧ (i + 1) ≤ 2147483647 from by omega) ?_
            show zGC E md72 w gr_52_7.1 15 [(0, .inr (.inl 102)), (1, .inr (.inl 7)), (2, .inr (.inl 93)), (3, .inl d), (4, .inl 1), (5, .inl bo), (6, .inl (i + 1))] σ3 K
            exact ih bo (i + 1) σ3 p2 (by omega) (by omega) (by omega) (by omega) T3 (cSf_tr hF F3) (by omega) (fun L => by rw [N3]; exact ((hq L).trans (eJ L)).trans (q2 d L))
        · refine And.intro (fun (c9 : r3 = 19) => ?_) (fun (c10 : ¬ r3 = 19) => ?_)
          · have hj : qisw x p (qrw 20) = true ∨ qisw x p (qrw 19) = true := by
              by_cases e : r3 = 20
              · exact Or.inl ((cT_kws hT (by decide)).mpr (by omega))
              · exact Or.inr ((cT_kws hT (by decide)).mpr (by omega))
            have eJ : ∀ L : List Int, qN x S true d d L (σ 102 4) p = qN x S false d d L (σ 102 4) (qnx x.1 x.2.1 p) := fun L => qN_jn hT hn hj
            have hkj : qkd x.1 x.2.1 x.2.2 p = 1 := hj.elim qisw_k qisw_k
            have hk1 : ¬ qkd x.1 x.2.1 x.2.2 p = 0 ∧ ¬ qkd x.1 x.2.1 x.2.2 p = 4 := by first | exact (cT_nks hT).1 (by omega) | omega
            refine And.intro (cT_nx ⟨hT, hk1⟩) (fun s1 (σ1 : vS) ha1 f1 t1_ => ?_)
            have T1 : cT x (qnx x.1 x.2.1 p) σ1 := cT_next hT hk1 ha1 f1 t1_
            have F1 : cSf σ σ1 := cSf_cg cSf_refl (cg_of f1)
            clear ha1
            have N1 : σ1 102 4 = σ 102 4 := congrFun ((cg_of f1).1 102 (by decide)) 4
            refine ⟨show d = 7 from by omega, x, (qnx x.1 x.2.1 p), S, ⟨T1, cSn_f hS F1, hn⟩, fun k2 p2 o2 (σ2 : vS) hk2 (q2 : (∀ (b : Int) (L : List Int), qN x S false d b L (σ1 102 4) (qnx x.1 x.2.1 p) = (k2, p2, o2))) fl2 g2 => ?_, fun p2 (σ2 : vS) (T2 : cT x p2 σ2) g2 m2 (q2 : (∀ (b : Int) (L : List Int), qN x S false d b L (σ1 102 4) (qnx x.1 x.2.1 p) = qN x S true b b L (σ2 102 4) p2)) => ?_⟩
            · rw [N1] at q2
              have F2 : cSf σ σ2 := cSf_tr F1 g2
              refine And.intro (fun _ => ?_) (fun (q : r3 = 20) => (by exfalso; omega))
              refine And.intro (show -2147483648 ≤ (i + 1) ∧ (i + 1) ≤ 2147483647 from by omega) ?_
              show zGC E md72 w gr_52_7.1 15 [(0, .inr (.inl 102)), (1, .inr (.inl 7)), (2, .inr (.inl 93)), (3, .inl d), (4, .inl 0), (5, .inl 1), (6, .inl (i + 1))] σ2 K
              exact vt_52z_7 X B i55 (h0 k2 p2 o2 σ2 hk2 (fun L => ((hq L).trans (eJ L)).trans (q2 d L)) fl2 (cSf_tr hF F2))
            · rw [N1] at q2 m2
              have F2 : cSf σ σ2 := cSf_tr F1 g2
              refine And.intro (fun _ => ?_) (fun (q : r3 = 20) => (by exfalso; omega))
              refine And.intro (show -2147483648 ≤ (i + 1) ∧ (i + 1) ≤ 2147483647 from by omega) ?_
              show zGC E md72 w gr_52_7.1 15 [(0, .inr (.inl 102)), (1, .inr (.inl 7)), (2, .inr (.inl 93)), (3, .inl d), (4, .inl 1), (5, .inl 1), (6, .inl (i + 1))] σ2 K
              exact ih 1 (i + 1) σ2 p2 (by omega) (by omega) (by omega) (by omega) T2 (cSf_tr hF F2) (by omega) (fun L => by exact ((hq L).trans (eJ L)).trans (q2 d L))
          · refine And.intro (show 0 ≤ 1 ∧ 1 ≤ 1 from by omega) ?_
            have hj : ¬ (qisw x p (qrw 20) = true ∨ qisw x p (qrw 19) = true) := fun q => q.elim (fun q => by have := (cT_kws hT (j := 20) (by decide)).mp q; omega) (fun q => by have := (cT_kws hT (j := 19) (by decide)).mp q; omega)
            exact h1 p σ hT (cSf_tr hF cSf_refl) (by omega) (fun L => by exact hq L) hj
      · refine And.intro (fun (c11 : r3 = 20) => ?_) (fun (c12 : ¬ r3 = 20) => ?_)
        · refine And.intro (fun _ => ?_) (fun (q : ¬ r3 = 20) => (by exfalso; omega))
          have hj : qisw x p (qrw 20) = true ∨ qisw x p (qrw 19) = true := by
            by_cases e : r3 = 20
            · exact Or.inl ((cT_kws hT (by decide)).mpr (by omega))
            · exact Or.inr ((cT_kws hT (by decide)).mpr (by omega))
          have eJ : ∀ L : List Int, qN x S true d d L (σ 102 4) p = qN x S false d d L (σ 102 4) (qnx x.1 x.2.1 p) := fun L => qN_jn hT hn hj
          have hkj : qkd x.1 x.2.1 x.2.2 p = 1 := hj.elim qisw_k qisw_k
          have hk1 : ¬ qkd x.1 x.2.1 x.2.2 p = 0 ∧ ¬ qkd x.1 x.2.1 x.2.2 p = 4 := by first | exact (cT_nks hT).1 (by omega) | omega
          refine And.intro (cT_nx ⟨hT, hk1⟩) (fun s1 (σ1 : vS) ha1 f1 t1_ => ?_)
          have T1 : cT x (qnx x.1 x.2.1 p) σ1 := cT_next hT hk1 ha1 f1 t1_
          have F1 : cSf σ σ1 := cSf_cg cSf_refl (cg_of f1)
          clear ha1
          have N1 : σ1 102 4 = σ 102 4 := congrFun ((cg_of f1).1 102 (by decide)) 4
          refine ⟨show d = 7 from by omega, x, (qnx x.1 x.2.1 p), S, ⟨T1, cSn_f hS F1, hn⟩, fun k2 p2 o2 (σ2 : vS) hk2 (q2 : (∀ (b : Int) (L : List Int), qN x S false d b L (σ1 102 4) (qnx x.1 x.2.1 p) = (k2, p2, o2))) fl2 g2 => ?_, fun p2 (σ2 : vS) (T2 : cT x p2 σ2) g2 m2 (q2 : (∀ (b : Int) (L : List Int), qN x S false d b L (σ1 102 4) (qnx x.1 x.2.1 p) = qN x S true b b L (σ2 102 4) p2)) => ?_⟩
          · rw [N1] at q2
            have F2 : cSf σ σ2 := cSf_tr F1 g2
            refine And.intro (fun (q : ¬ r3 = 20) => (by exfalso; omega)) (fun _ => ?_)
            refine And.intro (show ((0 : Int) ≤ 20 ∧ 20 ≤ 29) ∧ 0 ≤ 0 ∧ 0 ≤ 6299 from by omega) (fun (σ3 : vS) g3 n3 => ?_)
            have F3 : cSf σ σ3 := cSf_sg F2 g3
            have y3 : σ3 7 4 = σ2 7 4 := congrFun (g3 7 (by decide)) 4
            refine And.intro (show -2147483648 ≤ (i + 1) ∧ (i + 1) ≤ 2147483647 from by omega) ?_
            show zGC E md72 w gr_52_7.1 15 [(0, .inr (.inl 102)), (1, .inr (.inl 7)), (2, .inr (.inl 93)), (3, .inl d), (4, .inl 0), (5, .inl bo), (6, .inl (i + 1))] σ3 K
            exact vt_52z_7 X B i55 (h0 k2 p2 o2 σ3 hk2 (fun L => ((hq L).trans (eJ L)).trans (q2 d L)) (cFl_sg fl2 g3) (cSf_tr hF F3))
          · rw [N1] at q2 m2
            have F2 : cSf σ σ2 := cSf_tr F1 g2
            refine And.intro (fun (q : ¬ r3 = 20) => (by exfalso; omega)) (fun _ => ?_)
            refine And.intro (show ((0 : Int) ≤ 20 ∧ 20 ≤ 29) ∧ 0 ≤ 0 ∧ 0 ≤ 6299 from by omega) (fun (σ3 : vS) g3 n3 => ?_)
            have T3 : cT x p2 σ3 := cT_sg T2 g3
            have F3 : cSf σ σ3 := cSf_sg F2 g3
            have N3 : σ3 102 4 = σ2 102 4 := n3
            have y3 : σ3 7 4 = σ2 7 4 := congrFun (g3 7 (by decide)) 4
            refine And.intro (show -2147483648 ≤ (i + 1) ∧ (i + 1) ≤ 2147483647 from by omega) ?_
            show zGC E md72 w gr_52_7.1 15 [(0, .inr (.inl 102)), (1, .inr (.inl 7)), (2, .inr (.inl 93)), (3, .inl d), (4, .inl 1), (5, .inl bo), (6, .inl (i + 1))] σ3 K
            exact ih bo (i + 1) σ3 p2 (by omega) (by omega) (by omega) (by omega) T3 (cSf_tr hF F3) (by omega) (fun L => by rw [N3]; exact ((hq L).trans (eJ L)).trans (q2 d L))
        · refine And.intro (show ((0 : Int) ≤ 19 ∧ 19 ≤ 29) ∧ 0 ≤ 0 ∧ 0 ≤ 6299 from by omega) (fun (σ1 : vS) g1 n1 => ?_)
          have T1 : cT x p σ1 := cT_sg hT g1
          have F1 : cSf σ σ1 := cSf_sg cSf_refl g1
          have N1 : σ1 102 4 = σ 102 4 := n1
          have y1 : σ1 7 4 = σ 7 4 := congrFun (g1 7 (by decide)) 4
          refine And.intro (fun (c13 : r3 = 20) => ?_) (fun (c14 : ¬ r3 = 20) => ?_)
          · have hj : qisw x p (qrw 20) = true ∨ qisw x p (qrw 19) = true := by
              by_cases e : r3 = 20
              · exact Or.inl ((cT_kws hT (by decide)).mpr (by omega))
              · exact Or.inr ((cT_kws hT (by decide)).mpr (by omega))
            have eJ : ∀ L : List Int, qN x S true d d L (σ 102 4) p = qN x S false d d L (σ 102 4) (qnx x.1 x.2.1 p) := fun L => qN_jn hT hn hj
            have hkj : qkd x.1 x.2.1 x.2.2 p = 1 := hj.elim qisw_k qisw_k
            have hk2 : ¬ qkd x.1 x.2.1 x.2.2 p = 0 ∧ ¬ qkd x.1 x.2.1 x.2.2 p = 4 := by first | exact (cT_nks T1).1 (by omega) | omega
            refine And.intro (cT_nx ⟨T1, hk2⟩) (fun s2 (σ2 : vS) ha2 f2 t2_ => ?_)
            have T2 : cT x (qnx x.1 x.2.1 p) σ2 := cT_next T1 hk2 ha2 f2 t2_
            have F2 : cSf σ σ2 := cSf_cg F1 (cg_of f2)
            clear ha2
            have N2 : σ2 102 4 = σ 102 4 := (congrFun ((cg_of f2).1 102 (by decide)) 4).trans N1
            refine ⟨show d = 7 from by omega, x, (qnx x.1 x.2.1 p), S, ⟨T2, cSn_f hS F2, hn⟩, fun k3 p3 o3 (σ3 : vS) hk3 (q3 : (∀ (b : Int) (L : List Int), qN x S false d b L (σ2 102 4) (qnx x.1 x.2.1 p) = (k3, p3, o3))) fl3 g3 => ?_, fun p3 (σ3 : vS) (T3 : cT x p3 σ3) g3 m3 (q3 : (∀ (b : Int) (L : List Int), qN x S false d b L (σ2 102 4) (qnx x.1 x.2.1 p) = qN x S true b b L (σ3 102 4) p3)) => ?_⟩
            · rw [N2] at q3
              have F3 : cSf σ σ3 := cSf_tr F2 g3
              refine And.intro (fun (q : ¬ r3 = 20) => (by exfalso; omega)) (fun _ => ?_)
              refine And.intro (show ((0 : Int) ≤ 20 ∧ 20 ≤ 29) ∧ 0 ≤ 0 ∧ 0 ≤ 6299 from by omega) (fun (σ4 : vS) g4 n4 => ?_)
              have F4 : cSf σ σ4 := cSf_sg F3 g4
              have y4 : σ4 7 4 = σ3 7 4 := congrFun (g4 7 (by decide)) 4
              refine And.intro (show -2147483648 ≤ (i + 1) ∧ (i + 1) ≤ 2147483647 from by omega) ?_
              show zGC E md72 w gr_52_7.1 15 [(0, .inr (.inl 102)), (1, .inr (.inl 7)), (2, .inr (.inl 93)), (3, .inl d), (4, .inl 0), (5, .inl 0), (6, .inl (i + 1))] σ4 K
              exact vt_52z_7 X B i55 (h0 k3 p3 o3 σ4 hk3 (fun L => ((hq L).trans (eJ L)).trans (q3 d L)) (cFl_sg fl3 g4) (cSf_tr hF F4))
            · rw [N2] at q3 m3
              have F3 : cSf σ σ3 := cSf_tr F2 g3
              refine And.intro (fun (q : ¬ r3 = 20) => (by exfalso; omega)) (fun _ => ?_)
              refine And.intro (show ((0 : Int) ≤ 20 ∧ 20 ≤ 29) ∧ 0 ≤ 0 ∧ 0 ≤ 6299 from by omega) (fun (σ4 : vS) g4 n4 => ?_)
              have T4 : cT x p3 σ4 := cT_sg T3 g4
              have F4 : cSf σ σ4 := cSf_sg F3 g4
              have N4 : σ4 102 4 = σ3 102 4 := n4
              have y4 : σ4 7 4 = σ3 7 4 := congrFun (g4 7 (by decide)) 4
              refine And.intro (show -2147483648 ≤ (i + 1) ∧ (i + 1) ≤ 2147483647 from by omega) ?_
              show zGC E md72 w gr_52_7.1 15 [(0, .inr (.inl 102)), (1, .inr (.inl 7)), (2, .inr (.inl 93)), (3, .inl d), (4, .inl 1), (5, .inl 0), (6, .inl (i + 1))] σ4 K
              exact ih 0 (i + 1) σ4 p3 (by omega) (by omega) (by omega) (by omega) T4 (cSf_tr hF F4) (by omega) (fun L => by rw [N4]; exact ((hq L).trans (eJ L)).trans (q3 d L))
          · refine And.intro (fun (c15 : r3 = 19) => ?_) (fun (c16 : ¬ r3 = 19) => ?_)
            · have hj : qisw x p (qrw 20) = true ∨ qisw x p (qrw 19) = true := by
                by_cases e : r3 = 20
                · exact Or.inl ((cT_kws hT (by decide)).mpr (by omega))
                · exact Or.inr ((cT_kws hT (by decide)).mpr (by omega))
              have eJ : ∀ L : List Int, qN x S true d d L (σ 102 4) p = qN x S false d d L (σ 102 4) (qnx x.1 x.2.1 p) := fun L => qN_jn hT hn hj
              have hkj : qkd x.1 x.2.1 x.2.2 p = 1 := hj.elim qisw_k qisw_k
              have hk2 : ¬ qkd x.1 x.2.1 x.2.2 p = 0 ∧ ¬ qkd x.1 x.2.1 x.2.2 p = 4 := by first | exact (cT_nks T1).1 (by omega) | omega
              refine And.intro (cT_nx ⟨T1, hk2⟩) (fun s2 (σ2 : vS) ha2 f2 t2_ => ?_)
              have T2 : cT x (qnx x.1 x.2.1 p) σ2 := cT_next T1 hk2 ha2 f2 t2_
              have F2 : cSf σ σ2 := cSf_cg F1 (cg_of f2)
              clear ha2
              have N2 : σ2 102 4 = σ 102 4 := (congrFun ((cg_of f2).1 102 (by decide)) 4).trans N1
              refine ⟨show d = 7 from by omega, x, (qnx x.1 x.2.1 p), S, ⟨T2, cSn_f hS F2, hn⟩, fun k3 p3 o3 (σ3 : vS) hk3 (q3 : (∀ (b : Int) (L : List Int), qN x S false d b L (σ2 102 4) (qnx x.1 x.2.1 p) = (k3, p3, o3))) fl3 g3 => ?_, fun p3 (σ3 : vS) (T3 : cT x p3 σ3) g3 m3 (q3 : (∀ (b : Int) (L : List Int), qN x S false d b L (σ2 102 4) (qnx x.1 x.2.1 p) = qN x S true b b L (σ3 102 4) p3)) => ?_⟩
              · rw [N2] at q3
                have F3 : cSf σ σ3 := cSf_tr F2 g3
                refine And.intro (fun _ => ?_) (fun (q : r3 = 20) => (by exfalso; omega))
                refine And.intro (show -2147483648 ≤ (i + 1) ∧ (i + 1) ≤ 2147483647 from by omega) ?_
                show zGC E md72 w gr_52_7.1 15 [(0, .inr (.inl 102)), (1, .inr (.inl 7)), (2, .inr (.inl 93)), (3, .inl d), (4, .inl 0), (5, .inl 1), (6, .inl (i + 1))] σ3 K
                exact vt_52z_7 X B i55 (h0 k3 p3 o3 σ3 hk3 (fun L => ((hq L).trans (eJ L)).trans (q3 d L)) fl3 (cSf_tr hF F3))
              · rw [N2] at q3 m3
                have F3 : cSf σ σ3 := cSf_tr F2 g3
                refine And.intro (fun _ => ?_) (fun (q : r3 = 20) => (by exfalso; omega))
                refine And.intro (show -2147483648 ≤ (i + 1) ∧ (i + 1) ≤ 2147483647 from by omega) ?_
                show zGC E md72 w gr_52_7.1 15 [(0, .inr (.inl 102)), (1, .inr (.inl 7)), (2, .inr (.inl 93)), (3, .inl d), (4, .inl 1), (5, .inl 1), (6, .inl (i + 1))] σ3 K
                exact ih 1 (i + 1) σ3 p3 (by omega) (by omega) (by omega) (by omega) T3 (cSf_tr hF F3) (by omega) (fun L => by exact ((hq L).trans (eJ L)).trans (q3 d L))
            · refine And.intro (show 0 ≤ 1 ∧ 1 ≤ 1 from by omega) ?_
              have hj : ¬ (qisw x p (qrw 20) = true ∨ qisw x p (qrw 19) = true) := fun q => q.elim (fun q => by have := (cT_kws hT (j := 20) (by decide)).mp q; omega) (fun q => by have := (cT_kws hT (j := 19) (by decide)).mp q; omega)
              exact h1 p σ1 T1 (cSf_tr hF F1) (by omega) (fun L => by rw [N1]; exact hq L) hj
set_option maxRecDepth 16384 in
theorem vt_52_7 (X : zX gKX E) (B : zB E) (i55 : zOKR E md72 w gr_55_7 (vt55 7)) : zOKR E md72 w gr_52_7 (vt52 7) := by
  intro vs σ K h
  unfold vt52 at h
  split at h
  · rename_i d
    obtain ⟨hd, x, p, S, ⟨hT, hS, hn⟩, h0, h1⟩ := h
    show zGC E md72 w gr_52_7.1 0 [(0, .inr (.inl 102)), (1, .inr (.inl 7)), (2, .inr (.inl 93)), (3, .inl d)] σ K
    refine zbdC (fun hb0 => ?_)
    have b4 : 0 ≤ σ 102 4 ∧ σ 102 4 ≤ 20 := zfC hb0 (t := 102) (f := 4) (by decide +kernel)
    refine zbdC (fun hb => zgoR (⟨rfl, rfl, rfl⟩ : zalt gr_52_7 (gm_52, 8)) (⟨rfl, rfl, rfl⟩ : zalt gr_55_7 (gm_55, 7)) X B zOKR_no i55 (vLA_ok X B) (by decide) [] [(15, [0, 1, 2, 3, 4, 5, 6])] (fun m => Nat.beq m.2.2.2.2.2.2.length 59) (by decide +kernel) ?_)
    refine ⟨show d = 7 from by omega, x, p, S, ⟨hT, cSn_f hS cSf_refl, hn⟩, fun k1 p1 o1 (σ1 : vS) hk1 (q1 : (∀ (b : Int) (L : List Int), qN x S false d b L (σ 102 4) p = (k1, p1, o1))) fl1 g1 => ?_, fun p1 (σ1 : vS) (T1 : cT x p1 σ1) g1 m1 (q1 : (∀ (b : Int) (L : List Int), qN x S false d b L (σ 102 4) p = qN x S true b b L (σ1 102 4) p1)) => ?_⟩
    · have F1 : cSf σ σ1 := cSf_tr cSf_refl g1
      show zGC E md72 w gr_52_7.1 15 [(0, .inr (.inl 102)), (1, .inr (.inl 7)), (2, .inr (.inl 93)), (3, .inl d), (4, .inl 0), (5, .inl 0), (6, .inl 0)] σ1 K
      exact vt_52z_7 X B i55 (h0 k1 p1 o1 σ1 hk1 (fun L => q1 d L) fl1 F1)
    · have F1 : cSf σ σ1 := cSf_tr cSf_refl g1
      show zGC E md72 w gr_52_7.1 15 [(0, .inr (.inl 102)), (1, .inr (.inl 7)), (2, .inr (.inl 93)), (3, .inl d), (4, .inl 1), (5, .inl 0), (6, .inl 0)] σ1 K
      exact vt_52l_7 X B i55 hd hS hn h0 h1 22 0 0 σ1 p1 (by omega) (by omega) (by omega) (by omega) T1 F1 (by omega) (fun L => q1 d L)
  · exact absurd h id
set_option maxRecDepth 16384 in
theorem vt_55_6 (X : zX gKX E) (B : zB E) (i55 : zOKR E md72 w gr_55_7 (vt55 7)) (i52 : zOKR E md72 w gr_52_7 (vt52 7)) : zOKR E md72 w gr_55_6 (vt55 6) := by
  intro vs σ K h
  unfold vt55 at h
  split at h
  · rename_i d
    obtain ⟨hd, x, p, S, ⟨hT, hS, hn⟩, h0, h1⟩ := h
    show zGC E md72 w gr_55_6.1 0 [(0, .inr (.inl 102)), (1, .inr (.inl 7)), (2, .inr (.inl 93)), (3, .inl d)] σ K
    refine zbdC (fun hb => zgoR (⟨rfl, rfl, rfl⟩ : zalt gr_52_7 (gm_52, 8)) (⟨rfl, rfl, rfl⟩ : zalt gr_55_7 (gm_55, 7)) X B i52 i55 (vLA_ok X B) (by decide) [] [] (fun m => false) (by decide +kernel) ?_)
    refine fun z (t1 : (z = 1 ∧ σ 7 4 = 5 ∧ σ 7 6 = 40) ∨ (z = 0 ∧ ¬ (σ 7 4 = 5 ∧ σ 7 6 = 40))) => ?_
    rcases t1 with ⟨rfl, t1⟩ | ⟨rfl, t1⟩
    · refine fun (r2 : Int) (t3 : (σ 7 4 = 2 ∧ r2 = σ 7 6) ∨ (¬ σ 7 4 = 2 ∧ r2 = -1)) => ?_
      refine And.intro (fun _ => ?_) (fun (q : 1 = 0) => absurd q (by decide))
      have f4 : 0 ≤ σ 102 4 ∧ σ 102 4 ≤ 20 := zfC hb (t := 102) (f := 4) (by decide +kernel)
      refine And.intro (fun (c5 : 20 ≤ (σ 102 4)) => ?_) (fun (c6 : (σ 102 4) < 20) => ?_)
      · refine And.intro (cT_fl hT (by omega)) ?_
        refine And.intro (show 0 ≤ 0 ∧ 0 ≤ 1 from by omega) ?_
        have hB : ¬ qbeg x p = -1 := by have := (cT_bg hT).1 t1; omega
        exact h0 4 p (σ 102 4) _ (by decide) (fun b L => qN_of (qop_4 hB (by omega)) (by decide)) (cFl_of hT) (cSf_cg cSf_refl cg_fl)
      · refine And.intro (fun (c7 : d ≤ 8) => ?_) (fun (c8 : 8 < d) => ?_)
        · refine And.intro (show -2147483648 ≤ ((σ 102 4) + 1) ∧ ((σ 102 4) + 1) ≤ 2147483647 from by omega) ?_
          refine And.intro (show 0 ≤ ((σ 102 4) + 1) ∧ ((σ 102 4) + 1) ≤ 20 from by omega) ?_
          have hlim : ¬ (σ 102 4 = 20 ∨ 8 < d) := by omega
          have hB : qbeg x p = 9 := (cT_bg hT).1 t1
          have hon : σ 102 4 + 1 ≤ 20 := by omega
          have hk1 : ¬ qkd x.1 x.2.1 x.2.2 p = 0 ∧ ¬ qkd x.1 x.2.1 x.2.2 p = 4 := by first | exact (cT_nks hT).1 (by omega) | omega
          refine And.intro (cT_nx ⟨(cT_t hT (by decide)), hk1⟩) (fun s1 (σ1 : vS) ha1 f1 t1_ => ?_)
          have T1 : cT x (qnx x.1 x.2.1 p) σ1 := cT_next (cT_t hT (by decide)) hk1 ha1 f1 t1_
          have F1 : cSf σ σ1 := cSf_cg (cSf_up (by decide) cSf_refl) (cg_of f1)
          clear ha1
          clear t3
          have N1 : σ1 102 4 = (σ 102 4) + 1 := (congrFun ((cg_of f1).1 102 (by decide)) 4).trans vup_eq
          refine And.intro (fun (q : 1 = 0) => absurd q (by decide)) (fun _ => ?_)
          refine And.intro (show -2147483648 ≤ (d + 1) ∧ (d + 1) ≤ 2147483647 from by omega) ?_
          have eA : ∀ (b : Int) (L : List Int), qN x S false d b L (σ 102 4) p = qN x S false (d + 1) (d + 1) (b :: L) (σ 102 4 + 1) (qnx x.1 x.2.1 p) := fun b L => qN_og hT hn (qop_9 hB hlim)
          refine ⟨show d + 1 = 7 from by omega, x, (qnx x.1 x.2.1 p), S, ⟨T1, cSn_f hS F1, hn⟩, fun k2 p2 o2 (σ2 : vS) hk2 (q2 : (∀ L : List Int, qN x S false (d + 1) (d + 1) L (σ1 102 4) (qnx x.1 x.2.1 p) = (k2, p2, o2))) fl2 g2 => ?_, fun p2 (σ2 : vS) (T2 : cT x p2 σ2) g2 m2 (q2 : (∀ L : List Int, qN x S false (d + 1) (d + 1) L (σ1 102 4) (qnx x.1 x.2.1 p) = qN x S true (d + 1) (d + 1) L (σ2 102 4) p2)) hj2 => ?_⟩
          · rw [N1] at q2
            have F2 : cSf σ σ2 := cSf_tr F1 g2
            refine And.intro (fun _ => ?_) (fun (q : ¬ 0 = 0) => absurd q (by decide))
            refine And.intro (show 0 ≤ 0 ∧ 0 ≤ 1 from by omega) ?_
            exact h0 k2 p2 o2 σ2 hk2 (fun b L => (eA b L).trans (q2 (b :: L))) fl2 F2
          · rw [N1] at q2 m2
            have F2 : cSf σ σ2 := cSf_tr F1 g2
            refine And.intro (fun (q : 1 = 0) => absurd q (by decide)) (fun _ => ?_)
            refine ⟨x, p2, T2, fun e3 (σ3 : vS) fl3 g3 => ?_, fun e3 (σ3 : vS) T3 g3 => ?_⟩
            · have F3 : cSf σ σ3 := cSf_cg F2 g3
              refine And.intro (fun _ => ?_) (fun (q : ¬ 0 = 0) => absurd q (by decide))
              refine And.intro (show 0 ≤ 0 ∧ 0 ≤ 1 from by omega) ?_
              exact h0 1 p2 (σ2 102 4) σ3 (by decide) (fun b L => ((eA b L).trans (q2 (b :: L))).trans (qN_nc hj2 e3)) fl3 F3
            · have F3 : cSf σ σ3 := cSf_cg F2 g3
              have N3 : σ3 102 4 = σ2 102 4 := congrFun (g3.1 102 (by decide)) 4
              refine And.intro (fun (q : 1 = 0) => absurd q (by decide)) (fun _ => ?_)
              refine And.intro (show 0 ≤ 1 ∧ 1 ≤ 1 from by omega) ?_
              exact h1 (qnx x.1 x.2.1 p2) σ3 T3 F3 (by omega) (fun b L => by rw [N3]; exact ((eA b L).trans (q2 (b :: L))).trans (qN_cl T2 hn hj2 e3))
        · refine And.intro (cT_fl hT (by omega)) ?_
          refine And.intro (show 0 ≤ 0 ∧ 0 ≤ 1 from by omega) ?_
          have hB : ¬ qbeg x p = -1 := by have := (cT_bg hT).1 t1; omega
          exact h0 4 p (σ 102 4) _ (by decide) (fun b L => qN_of (qop_4 hB (by omega)) (by decide)) (cFl_of hT) (cSf_cg cSf_refl cg_fl)
    · refine fun (r9 : Int) (t10 : (σ 7 4 = 2 ∧ r9 = σ 7 6) ∨ (¬ σ 7 4 = 2 ∧ r9 = -1)) => ?_
      refine And.intro (fun (q : ¬ 0 = 0) => absurd q (by decide)) (fun _ => ?_)
      refine And.intro (fun (c11 : r9 < 21) => ?_) (fun (c12 : 21 ≤ r9) => ?_)
      · refine And.intro (cT_fl hT (by omega)) ?_
        refine And.intro (show 0 ≤ 0 ∧ 0 ≤ 1 from by omega) ?_
        have hB : qbeg x p = -1 := (cT_bg hT).2.2.2 t1 (by omega)
        exact h0 1 p (σ 102 4) _ (by decide) (fun b L => qN_of (qop_1 hB) (by decide)) (cFl_of hT) (cSf_cg cSf_refl cg_fl)
      · refine And.intro (fun (c13 : r9 ≤ 29) => ?_) (fun (c14 : 29 < r9) => ?_)
        · have f15 : 0 ≤ σ 102 4 ∧ σ 102 4 ≤ 20 := zfC hb (t := 102) (f := 4) (by decide +kernel)
          refine And.intro (fun (c16 : 20 ≤ (σ 102 4)) => ?_) (fun (c17 : (σ 102 4) < 20) => ?_)
          · refine And.intro (cT_fl hT (by omega)) ?_
            refine And.intro (show 0 ≤ 0 ∧ 0 ≤ 1 from by omega) ?_
            have hB : ¬ qbeg x p = -1 := by
              by_cases e : σ 7 6 = 21
              · have := (cT_bg hT).2.1 (by omega); omega
              · have := (cT_bg hT).2.2.1 (by omega); omega
            exact h0 4 p (σ 102 4) _ (by decide) (fun b L => qN_of (qop_4 hB (by omega)) (by decide)) (cFl_of hT) (cSf_cg cSf_refl cg_fl)
          · refine And.intro (fun (c18 : d ≤ 8) => ?_) (fun (c19 : 8 < d) => ?_)
            · refine And.intro (show -2147483648 ≤ ((σ 102 4) + 1) ∧ ((σ 102 4) + 1) ≤ 2147483647 from by omega) ?_
              refine And.intro (show 0 ≤ ((σ 102 4) + 1) ∧ ((σ 102 4) + 1) ≤ 20 from by omega) ?_
              have hlim : ¬ (σ 102 4 = 20 ∨ 8 < d) := by omega
              have hon : σ 102 4 + 1 ≤ 20 := by omega
              have hr : σ 7 4 = 2 ∧ r9 = σ 7 6 := by omega
              have hk1 : ¬ qkd x.1 x.2.1 x.2.2 p = 0 ∧ ¬ qkd x.1 x.2.1 x.2.2 p = 4 := by first | exact (cT_nks hT).1 (by omega) | omega
              refine And.intro (cT_nx ⟨(cT_t hT (by decide)), hk1⟩) (fun s1 (σ1 : vS) ha1 f1 t1_ => ?_)
              have T1 : cT x (qnx x.1 x.2.1 p) σ1 := cT_next (cT_t hT (by decide)) hk1 ha1 f1 t1_
              have F1 : cSf σ σ1 := cSf_cg (cSf_up (by decide) cSf_refl) (cg_of f1)
              clear ha1
              clear t10 t1
              have N1 : σ1 102 4 = (σ 102 4) + 1 := (congrFun ((cg_of f1).1 102 (by decide)) 4).trans vup_eq
              refine And.intro (fun _ => ?_) (fun (q : ¬ 0 = 0) => absurd q (by decide))
              refine And.intro (And.intro (fun (c20 : r9 = 21) => ?_) (And.intro (fun (c21 : r9 = 22) => ?_) (And.intro (fun (c22 : r9 = 23) => ?_) (And.intro (fun (c23 : r9 = 24) => ?_) (And.intro (fun (c24 : r9 = 25) => ?_) (trivial)))))) (fun (c25 : r9 < 21 ∨ 25 < r9) => ?_)
              · refine And.intro (show -2147483648 ≤ (d + 1) ∧ (d + 1) ≤ 2147483647 from by omega) ?_
                have hB : qbeg x p = 8 := (cT_bg hT).2.1 (by omega)
                have eA : ∀ (b : Int) (L : List Int), qN x S false d b L (σ 102 4) p = qN x S false (d + 1) b L (σ 102 4 + 1) (qnx x.1 x.2.1 p) := fun b L => qN_og hT hn (qop_8 hB hlim)
                refine ⟨show d + 1 = 7 from by omega, x, (qnx x.1 x.2.1 p), S, ⟨T1, cSn_f hS F1, hn⟩, fun k2 p2 o2 (σ2 : vS) hk2 (q2 : (∀ (b : Int) (L : List Int), qN x S false (d + 1) b L (σ1 102 4) (qnx x.1 x.2.1 p) = (k2, p2, o2))) fl2 g2 => ?_, fun p2 (σ2 : vS) (T2 : cT x p2 σ2) g2 m2 (q2 : (∀ (b : Int) (L : List Int), qN x S false (d + 1) b L (σ1 102 4) (qnx x.1 x.2.1 p) = qN x S true b b L (σ2 102 4) p2)) => ?_⟩
                · rw [N1] at q2
                  have F2 : cSf σ σ2 := cSf_tr F1 g2
                  refine And.intro (show ((0 : Int) ≤ 21 ∧ 21 ≤ 29) ∧ 0 ≤ 0 ∧ 0 ≤ 6299 from by omega) (fun (σ3 : vS) g3 n3 => ?_)
                  have F3 : cSf σ σ3 := cSf_sg F2 g3
                  have y3 : σ3 7 4 = σ2 7 4 := congrFun (g3 7 (by decide)) 4
                  refine And.intro (show 0 ≤ 0 ∧ 0 ≤ 1 from by omega) ?_
                  exact h0 k2 p2 o2 σ3 hk2 (fun b L => (eA b L).trans (q2 b L)) (cFl_sg fl2 g3) F3
                · rw [N1] at q2 m2
                  have F2 : cSf σ σ2 := cSf_tr F1 g2
                  refine And.intro (show ((0 : Int) ≤ 21 ∧ 21 ≤ 29) ∧ 0 ≤ 0 ∧ 0 ≤ 6299 from by omega) (fun (σ3 : vS) g3 n3 => ?_)
                  have T3 : cT x p2 σ3 := cT_sg T2 g3
                  have F3 : cSf σ σ3 := cSf_sg F2 g3
                  have N3 : σ3 102 4 = σ2 102 4 := n3
                  have y3 : σ3 7 4 = σ2 7 4 := congrFun (g3 7 (by decide)) 4
                  refine And.intro (show 0 ≤ 1 ∧ 1 ≤ 1 from by omega) ?_
                  exact h1 p2 σ3 T3 F3 (by omega) (fun b L => by rw [N3]; exact (eA b L).trans (q2 b L))
              · refine And.intro (show ((0 : Int) ≤ r9 ∧ r9 ≤ 29) ∧ 0 ≤ 0 ∧ 0 ≤ 6299 from by omega) (fun (σ2 : vS) g2 n2 => ?_)
                have T2 : cT x (qnx x.1 x.2.1 p) σ2 := cT_sg T1 g2
                have F2 : cSf σ σ2 := cSf_sg F1 g2
                have N2 : σ2 102 4 = (σ 102 4) + 1 := n2.trans N1
                have y2 : σ2 7 4 = σ1 7 4 := congrFun (g2 7 (by decide)) 4
                refine And.intro (show 0 ≤ 1 ∧ 1 ≤ 1 from by omega) ?_
                have hB := (cT_bg hT).2.2.1 (by omega)
                exact h1 (qnx x.1 x.2.1 p) σ2 T2 F2 ⟨by rw [N2]; exact Int.le_refl _, by rw [N2]; exact hon⟩ (fun b L => by rw [N2]; exact (qN_og hT hn (qop_l (by omega) hlim)).trans qN_d)
              · refine And.intro (show ((0 : Int) ≤ r9 ∧ r9 ≤ 29) ∧ 0 ≤ 0 ∧ 0 ≤ 6299 from by omega) (fun (σ2 : vS) g2 n2 => ?_)
                have T2 : cT x (qnx x.1 x.2.1 p) σ2 := cT_sg T1 g2
                have F2 : cSf σ σ2 := cSf_sg F1 g2
                have N2 : σ2 102 4 = (σ 102 4) + 1 := n2.trans N1
                have y2 : σ2 7 4 = σ1 7 4 := congrFun (g2 7 (by decide)) 4
                refine And.intro (show 0 ≤ 1 ∧ 1 ≤ 1 from by omega) ?_
                have hB := (cT_bg hT).2.2.1 (by omega)
                exact h1 (qnx x.1 x.2.1 p) σ2 T2 F2 ⟨by rw [N2]; exact Int.le_refl _, by rw [N2]; exact hon⟩ (fun b L => by rw [N2]; exact (qN_og hT hn (qop_l (by omega) hlim)).trans qN_d)
              · have hB : qbeg x p = 2 := by have := (cT_bg hT).2.2.1 (by omega); omega
                obtain ⟨r1, r2, r3⟩ := qof_b (x := x) (S := S) (p := (qnx x.1 x.2.1 p)) hS.2 (k := 2) (by omega)
                have eM : ∀ (b : Int) (L : List Int), qop x S.2.2 (S.2.1 0) (S.2.1 1) d b L (σ 102 4) p = if (qofn x S.2.2 (S.2.1 0) (S.2.1 1) 2 (qnx x.1 x.2.1 p)) < 0 then (-(qofn x S.2.2 (S.2.1 0) (S.2.1 1) 2 (qnx x.1 x.2.1 p)), ((qnx x.1 x.2.1 p), true, d, b, L, σ 102 4 + 1)) else (0, (qnx x.1 x.2.1 (qnx x.1 x.2.1 p), true, d, b, L, σ 102 4 + 1)) := fun b L => by
                  have e := qop_m (x := x) (nm := S.2.2) (mh := S.2.1 0) (mo := S.2.1 1) (d := d) (b := b) (L := L) (o := σ 102 4) (p := p) (by omega) hlim
                  rw [hB] at e
                  exact e
                refine ⟨by omega, x, ((qnx x.1 x.2.1 p), S.2), S.2.1 1, T1, (cSn_f hS F1).1, hS.2, fun q => absurd q (by decide), fun _ => ⟨rfl, fun c2 (σ2 : vS) fl2 g2 => ?_, fun c2 => ?_⟩, fun q => absurd q (by decide)⟩
                · clear r3
                  have c2 : (qofn x S.2.2 (S.2.1 0) (S.2.1 1) 2 (qnx x.1 x.2.1 p)) < 0 := c2
                  have fl2 : cFl x (-(qofn x S.2.2 (S.2.1 0) (S.2.1 1) 2 (qnx x.1 x.2.1 p))) (qnx x.1 x.2.1 p) σ2 := fl2
                  have F2 : cSf σ σ2 := cSf_cg F1 g2
                  refine And.intro (fun (q : ¬ (-1) = (-1)) => absurd q (by decide)) (fun _ => ?_)
                  refine And.intro (show 0 ≤ 0 ∧ 0 ≤ 1 from by omega) ?_
                  refine And.intro (show 0 ≤ 0 ∧ 0 ≤ 1 from by omega) ?_
                  exact h0 (-(qofn x S.2.2 (S.2.1 0) (S.2.1 1) 2 (qnx x.1 x.2.1 p))) (qnx x.1 x.2.1 p) (σ 102 4 + 1) σ2 (by omega) (fun b L => qN_of ((eM b L).trans (if_pos c2)) (by omega)) fl2 F2
                · have c2 : 0 ≤ (qofn x S.2.2 (S.2.1 0) (S.2.1 1) 2 (qnx x.1 x.2.1 p)) := c2
                  have kq2 := r3 c2
                  clear r3
                  have eR26 : qlk x 6 (S.2.1 1) ((qnx x.1 x.2.1 p), S.2) = (qofn x S.2.2 (S.2.1 0) (S.2.1 1) 2 (qnx x.1 x.2.1 p)) := rfl
                  rw [eR26]
                  refine And.intro (fun (c27 : ¬ ((qofn x S.2.2 (S.2.1 0) (S.2.1 1) 2 (qnx x.1 x.2.1 p))) = (-1)) => ?_) (fun (c28 : ((qofn x S.2.2 (S.2.1 0) (S.2.1 1) 2 (qnx x.1 x.2.1 p))) = (-1)) => ?_)
                  · refine And.intro (show ((0 : Int) ≤ r9 ∧ r9 ≤ 29) ∧ 0 ≤ ((qofn x S.2.2 (S.2.1 0) (S.2.1 1) 2 (qnx x.1 x.2.1 p))) ∧ ((qofn x S.2.2 (S.2.1 0) (S.2.1 1) 2 (qnx x.1 x.2.1 p))) ≤ 6299 from by omega) (fun (σ2 : vS) g2 n2 => ?_)
                    have T2 : cT x (qnx x.1 x.2.1 p) σ2 := cT_sg T1 g2
                    have F2 : cSf σ σ2 := cSf_sg F1 g2
                    have N2 : σ2 102 4 = (σ 102 4) + 1 := n2.trans N1
                    have y2 : σ2 7 4 = σ1 7 4 := congrFun (g2 7 (by decide)) 4
                    have hk3 : ¬ qkd x.1 x.2.1 x.2.2 (qnx x.1 x.2.1 p) = 0 ∧ ¬ qkd x.1 x.2.1 x.2.2 (qnx x.1 x.2.1 p) = 4 := by first | exact (cT_nks T2).1 (by omega) | omega
                    refine And.intro (cT_nx ⟨T2, hk3⟩) (fun s3 (σ3 : vS) ha3 f3 t3_ => ?_)
                    have T3 : cT x (qnx x.1 x.2.1 (qnx x.1 x.2.1 p)) σ3 := cT_next T2 hk3 ha3 f3 t3_
                    have F3 : cSf σ σ3 := cSf_cg F2 (cg_of f3)
                    clear ha3
                    have N3 : σ3 102 4 = (σ 102 4) + 1 := (congrFun ((cg_of f3).1 102 (by decide)) 4).trans N2
                    refine And.intro (show 0 ≤ 1 ∧ 1 ≤ 1 from by omega) ?_
                    refine And.intro (show 0 ≤ 1 ∧ 1 ≤ 1 from by omega) ?_
                    exact h1 (qnx x.1 x.2.1 (qnx x.1 x.2.1 p)) σ3 T3 F3 ⟨by rw [N3]; exact Int.le_refl _, by rw [N3]; exact hon⟩ (fun b L => by rw [N3]; exact (qN_og hT hn ((eM b L).trans (if_neg (by omega)))).trans qN_d)
                  · refine And.intro (show 0 ≤ 0 ∧ 0 ≤ 1 from by omega) ?_
                    refine And.intro (show 0 ≤ 0 ∧ 0 ≤ 1 from by omega) ?_
                    exfalso; omega
              · have hB : qbeg x p = 3 := by have := (cT_bg hT).2.2.1 (by omega); omega
                obtain ⟨r1, r2, r3⟩ := qof_b (x := x) (S := S) (p := (qnx x.1 x.2.1 p)) hS.2 (k := 3) (by omega)
                have eM : ∀ (b : Int) (L : List Int), qop x S.2.2 (S.2.1 0) (S.2.1 1) d b L (σ 102 4) p = if (qofn x S.2.2 (S.2.1 0) (S.2.1 1) 3 (qnx x.1 x.2.1 p)) < 0 then (-(qofn x S.2.2 (S.2.1 0) (S.2.1 1) 3 (qnx x.1 x.2.1 p)), ((qnx x.1 x.2.1 p), true, d, b, L, σ 102 4 + 1)) else (0, (qnx x.1 x.2.1 (qnx x.1 x.2.1 p), true, d, b, L, σ 102 4 + 1)) := fun b L => by
                  have e := qop_m (x := x) (nm := S.2.2) (mh := S.2.1 0) (mo := S.2.1 1) (d := d) (b := b) (L := L) (o := σ 102 4) (p := p) (by omega) hlim
                  rw [hB] at e
                  exact e
                refine ⟨by omega, x, ((qnx x.1 x.2.1 p), S.2), S.2.1 0, T1, (cSn_f hS F1).1, hS.2, fun _ => ⟨rfl, fun c2 (σ2 : vS) fl2 g2 => ?_, fun c2 => ?_⟩, fun q => absurd q (by decide), fun q => absurd q (by decide)⟩
                · clear r3
                  have c2 : (qofn x S.2.2 (S.2.1 0) (S.2.1 1) 3 (qnx x.1 x.2.1 p)) < 0 := c2
                  have fl2 : cFl x (-(qofn x S.2.2 (S.2.1 0) (S.2.1 1) 3 (qnx x.1 x.2.1 p))) (qnx x.1 x.2.1 p) σ2 := fl2
                  have F2 : cSf σ σ2 := cSf_cg F1 g2
                  refine And.intro (fun (q : ¬ (-1) = (-1)) => absurd q (by decide)) (fun _ => ?_)
                  refine And.intro (show 0 ≤ 0 ∧ 0 ≤ 1 from by omega) ?_
                  refine And.intro (show 0 ≤ 0 ∧ 0 ≤ 1 from by omega) ?_
                  exact h0 (-(qofn x S.2.2 (S.2.1 0) (S.2.1 1) 3 (qnx x.1 x.2.1 p))) (qnx x.1 x.2.1 p) (σ 102 4 + 1) σ2 (by omega) (fun b L => qN_of ((eM b L).trans (if_pos c2)) (by omega)) fl2 F2
                · have c2 : 0 ≤ (qofn x S.2.2 (S.2.1 0) (S.2.1 1) 3 (qnx x.1 x.2.1 p)) := c2
                  have kq2 := r3 c2
                  clear r3
                  have eR29 : qlk x 0 (S.2.1 0) ((qnx x.1 x.2.1 p), S.2) = (qofn x S.2.2 (S.2.1 0) (S.2.1 1) 3 (qnx x.1 x.2.1 p)) := rfl
                  rw [eR29]
                  refine And.intro (fun (c30 : ¬ ((qofn x S.2.2 (S.2.1 0) (S.2.1 1) 3 (qnx x.1 x.2.1 p))) = (-1)) => ?_) (fun (c31 : ((qofn x S.2.2 (S.2.1 0) (S.2.1 1) 3 (qnx x.1 x.2.1 p))) = (-1)) => ?_)
                  · refine And.intro (show ((0 : Int) ≤ r9 ∧ r9 ≤ 29) ∧ 0 ≤ ((qofn x S.2.2 (S.2.1 0) (S.2.1 1) 3 (qnx x.1 x.2.1 p))) ∧ ((qofn x S.2.2 (S.2.1 0) (S.2.1 1) 3 (qnx x.1 x.2.1 p))) ≤ 6299 from by omega) (fun (σ2 : vS) g2 n2 => ?_)
                    have T2 : cT x (qnx x.1 x.2.1 p) σ2 := cT_sg T1 g2
                    have F2 : cSf σ σ2 := cSf_sg F1 g2
                    have N2 : σ2 102 4 = (σ 102 4) + 1 := n2.trans N1
                    have y2 : σ2 7 4 = σ1 7 4 := congrFun (g2 7 (by decide)) 4
                    have hk3 : ¬ qkd x.1 x.2.1 x.2.2 (qnx x.1 x.2.1 p) = 0 ∧ ¬ qkd x.1 x.2.1 x.2.2 (qnx x.1 x.2.1 p) = 4 := by first | exact (cT_nks T2).1 (by omega) | omega
                    refine And.intro (cT_nx ⟨T2, hk3⟩) (fun s3 (σ3 : vS) ha3 f3 t3_ => ?_)
                    have T3 : cT x (qnx x.1 x.2.1 (qnx x.1 x.2.1 p)) σ3 := cT_next T2 hk3 ha3 f3 t3_
                    have F3 : cSf σ σ3 := cSf_cg F2 (cg_of f3)
                    clear ha3
                    have N3 : σ3 102 4 = (σ 102 4) + 1 := (congrFun ((cg_of f3).1 102 (by decide)) 4).trans N2
                    refine And.intro (show 0 ≤ 1 ∧ 1 ≤ 1 from by omega) ?_
                    refine And.intro (show 0 ≤ 1 ∧ 1 ≤ 1 from by omega) ?_
                    exact h1 (qnx x.1 x.2.1 (qnx x.1 x.2.1 p)) σ3 T3 F3 ⟨by rw [N3]; exact Int.le_refl _, by rw [N3]; exact hon⟩ (fun b L => by rw [N3]; exact (qN_og hT hn ((eM b L).trans (if_neg (by omega)))).trans qN_d)
                  · refine And.intro (show 0 ≤ 0 ∧ 0 ≤ 1 from by omega) ?_
                    refine And.intro (show 0 ≤ 0 ∧ 0 ≤ 1 from by omega) ?_
                    exfalso; omega
              · refine fun z (t32 : (z = 1 ∧ σ1 7 4 = 5 ∧ σ1 7 6 = 60) ∨ (z = 0 ∧ ¬ (σ1 7 4 = 5 ∧ σ1 7 6 = 60))) => ?_
                rcases t32 with ⟨rfl, t32⟩ | ⟨rfl, t32⟩
                · refine And.intro (fun _ => ?_) (fun (q : 1 = 0) => absurd q (by decide))
                  have hk2 : ¬ qkd x.1 x.2.1 x.2.2 (qnx x.1 x.2.1 p) = 0 ∧ ¬ qkd x.1 x.2.1 x.2.2 (qnx x.1 x.2.1 p) = 4 := by first | exact (cT_nks T1).1 (by omega) | omega
                  refine And.intro (cT_nx ⟨T1, hk2⟩) (fun s2 (σ2 : vS) ha2 f2 t2_ => ?_)
                  have T2 : cT x (qnx x.1 x.2.1 (qnx x.1 x.2.1 p)) σ2 := cT_next T1 hk2 ha2 f2 t2_
                  have F2 : cSf σ σ2 := cSf_cg F1 (cg_of f2)
                  clear ha2
                  have N2 : σ2 102 4 = (σ 102 4) + 1 := (congrFun ((cg_of f2).1 102 (by decide)) 4).trans N1
                  have vu33 := cT_v T2
                  refine ⟨(cT_fl T2 (by decide : (0 : Int) ≤ 1 ∧ (1 : Int) ≤ 4)).2, fun cu33 => ?_, fun cu33 du33 => ?_, fun cu33 du33 eu33 => ?_⟩
                  · refine And.intro (fun (q : ¬ (-1) = (-1)) => absurd q (by decide)) (fun _ => ?_)
                    refine And.intro (show 0 ≤ 0 ∧ 0 ≤ 1 from by omega) ?_
                    refine And.intro (show 0 ≤ 0 ∧ 0 ≤ 1 from by omega) ?_
                    have hB := (cT_bg hT).2.2.1 (by omega)
                    have e3 : qsg3 x (qnx x.1 x.2.1 p) = true := (cT_s3 T1).mpr (by omega)
                    have e4 : ¬ qkd x.1 x.2.1 x.2.2 (qnx x.1 x.2.1 (qnx x.1 x.2.1 p)) = 2 := fun q => cu33 ((cT_nks T2).2.1.mp q)
                    exact h0 1 (qnx x.1 x.2.1 (qnx x.1 x.2.1 p)) (σ 102 4 + 1) _ (by decide) (fun b L => qN_of ((qop_s (by omega) hlim).trans ((if_pos e3).trans (if_neg e4))) (by decide)) (cFl_of T2) (cSf_cg F2 cg_fl)
                  · exfalso; have := vu33 cu33; omega
                  · have wu33 := vu33 cu33
                    clear vu33 du33 eu33
                    refine And.intro (fun (c34 : ¬ (σ2 7 6) = (-1)) => ?_) (fun (c35 : (σ2 7 6) = (-1)) => ?_)
                    · refine And.intro (show -2147483648 ≤ ((σ1 7 6) * 100) ∧ ((σ1 7 6) * 100) ≤ 2147483647 from by omega) ?_
                      refine And.intro (show -2147483648 ≤ (((σ1 7 6) * 100) + (σ2 7 6)) ∧ (((σ1 7 6) * 100) + (σ2 7 6)) ≤ 2147483647 from by omega) ?_
                      refine And.intro (show ((0 : Int) ≤ r9 ∧ r9 ≤ 29) ∧ 0 ≤ (((σ1 7 6) * 100) + (σ2 7 6)) ∧ (((σ1 7 6) * 100) + (σ2 7 6)) ≤ 6299 from by omega) (fun (σ3 : vS) g3 n3 => ?_)
                      have T3 : cT x (qnx x.1 x.2.1 (qnx x.1 x.2.1 p)) σ3 := cT_sg T2 g3
                      have F3 : cSf σ σ3 := cSf_sg F2 g3
                      have N3 : σ3 102 4 = (σ 102 4) + 1 := n3.trans N2
                      have y3 : σ3 7 4 = σ2 7 4 := congrFun (g3 7 (by decide)) 4
                      have hk4 : ¬ qkd x.1 x.2.1 x.2.2 (qnx x.1 x.2.1 (qnx x.1 x.2.1 p)) = 0 ∧ ¬ qkd x.1 x.2.1 x.2.2 (qnx x.1 x.2.1 (qnx x.1 x.2.1 p)) = 4 := by first | exact (cT_nks T3).1 (by omega) | omega
                      refine And.intro (cT_nx ⟨T3, hk4⟩) (fun s4 (σ4 : vS) ha4 f4 t4_ => ?_)
                      have T4 : cT x (qnx x.1 x.2.1 (qnx x.1 x.2.1 (qnx x.1 x.2.1 p))) σ4 := cT_next T3 hk4 ha4 f4 t4_
                      have F4 : cSf σ σ4 := cSf_cg F3 (cg_of f4)
                      clear ha4
                      have N4 : σ4 102 4 = (σ 102 4) + 1 := (congrFun ((cg_of f4).1 102 (by decide)) 4).trans N3
                      refine And.intro (show 0 ≤ 1 ∧ 1 ≤ 1 from by omega) ?_
                      refine And.intro (show 0 ≤ 1 ∧ 1 ≤ 1 from by omega) ?_
                      have hB := (cT_bg hT).2.2.1 (by omega)
                      have e3 : qsg3 x (qnx x.1 x.2.1 p) = true := (cT_s3 T1).mpr (by omega)
                      have e4 : qkd x.1 x.2.1 x.2.2 (qnx x.1 x.2.1 (qnx x.1 x.2.1 p)) = 2 := (cT_nks T2).2.1.mpr cu33
                      exact h1 (qnx x.1 x.2.1 (qnx x.1 x.2.1 (qnx x.1 x.2.1 p))) σ4 T4 F4 ⟨by rw [N4]; exact Int.le_refl _, by rw [N4]; exact hon⟩ (fun b L => by rw [N4]; exact (qN_og hT hn ((qop_s (by omega) hlim).trans ((if_pos e3).trans (if_pos e4)))).trans qN_d)
                    · refine And.intro (show 0 ≤ 0 ∧ 0 ≤ 1 from by omega) ?_
                      refine And.intro (show 0 ≤ 0 ∧ 0 ≤ 1 from by omega) ?_
                      exfalso; omega
                · refine And.intro (fun (q : ¬ 0 = 0) => absurd q (by decide)) (fun _ => ?_)
                  refine fun z (t36 : (z = 1 ∧ σ1 7 4 = 5 ∧ σ1 7 6 = 61) ∨ (z = 0 ∧ ¬ (σ1 7 4 = 5 ∧ σ1 7 6 = 61))) => ?_
                  rcases t36 with ⟨rfl, t36⟩ | ⟨rfl, t36⟩
                  · clear t32
                    refine And.intro (fun _ => ?_) (fun (q : 1 = 0) => absurd q (by decide))
                    have hk2 : ¬ qkd x.1 x.2.1 x.2.2 (qnx x.1 x.2.1 p) = 0 ∧ ¬ qkd x.1 x.2.1 x.2.2 (qnx x.1 x.2.1 p) = 4 := by first | exact (cT_nks T1).1 (by omega) | omega
                    refine And.intro (cT_nx ⟨T1, hk2⟩) (fun s2 (σ2 : vS) ha2 f2 t2_ => ?_)
                    have T2 : cT x (qnx x.1 x.2.1 (qnx x.1 x.2.1 p)) σ2 := cT_next T1 hk2 ha2 f2 t2_
                    have F2 : cSf σ σ2 := cSf_cg F1 (cg_of f2)
                    clear ha2
                    have N2 : σ2 102 4 = (σ 102 4) + 1 := (congrFun ((cg_of f2).1 102 (by decide)) 4).trans N1
                    have vu37 := cT_v T2
                    refine ⟨(cT_fl T2 (by decide : (0 : Int) ≤ 1 ∧ (1 : Int) ≤ 4)).2, fun cu37 => ?_, fun cu37 du37 => ?_, fun cu37 du37 eu37 => ?_⟩
                    · refine And.intro (fun (q : ¬ (-1) = (-1)) => absurd q (by decide)) (fun _ => ?_)
                      refine And.intro (show 0 ≤ 0 ∧ 0 ≤ 1 from by omega) ?_
                      refine And.intro (show 0 ≤ 0 ∧ 0 ≤ 1 from by omega) ?_
                      have hB := (cT_bg hT).2.2.1 (by omega)
                      have e3 : qsg3 x (qnx x.1 x.2.1 p) = true := (cT_s3 T1).mpr (by omega)
                      have e4 : ¬ qkd x.1 x.2.1 x.2.2 (qnx x.1 x.2.1 (qnx x.1 x.2.1 p)) = 2 := fun q => cu37 ((cT_nks T2).2.1.mp q)
                      exact h0 1 (qnx x.1 x.2.1 (qnx x.1 x.2.1 p)) (σ 102 4 + 1) _ (by decide) (fun b L => qN_of ((qop_s (by omega) hlim).trans ((if_pos e3).trans (if_neg e4))) (by decide)) (cFl_of T2) (cSf_cg F2 cg_fl)
                    · exfalso; have := vu37 cu37; omega
                    · have wu37 := vu37 cu37
                      clear vu37 du37 eu37
                      refine And.intro (fun (c38 : ¬ (σ2 7 6) = (-1)) => ?_) (fun (c39 : (σ2 7 6) = (-1)) => ?_)
                      · refine And.intro (show -2147483648 ≤ ((σ1 7 6) * 100) ∧ ((σ1 7 6) * 100) ≤ 2147483647 from by omega) ?_
                        refine And.intro (show -2147483648 ≤ (((σ1 7 6) * 100) + (σ2 7 6)) ∧ (((σ1 7 6) * 100) + (σ2 7 6)) ≤ 2147483647 from by omega) ?_
                        refine And.intro (show ((0 : Int) ≤ r9 ∧ r9 ≤ 29) ∧ 0 ≤ (((σ1 7 6) * 100) + (σ2 7 6)) ∧ (((σ1 7 6) * 100) + (σ2 7 6)) ≤ 6299 from by omega) (fun (σ3 : vS) g3 n3 => ?_)
                        have T3 : cT x (qnx x.1 x.2.1 (qnx x.1 x.2.1 p)) σ3 := cT_sg T2 g3
                        have F3 : cSf σ σ3 := cSf_sg F2 g3
                        have N3 : σ3 102 4 = (σ 102 4) + 1 := n3.trans N2
                        have y3 : σ3 7 4 = σ2 7 4 := congrFun (g3 7 (by decide)) 4
                        have hk4 : ¬ qkd x.1 x.2.1 x.2.2 (qnx x.1 x.2.1 (qnx x.1 x.2.1 p)) = 0 ∧ ¬ qkd x.1 x.2.1 x.2.2 (qnx x.1 x.2.1 (qnx x.1 x.2.1 p)) = 4 := by first | exact (cT_nks T3).1 (by omega) | omega
                        refine And.intro (cT_nx ⟨T3, hk4⟩) (fun s4 (σ4 : vS) ha4 f4 t4_ => ?_)
                        have T4 : cT x (qnx x.1 x.2.1 (qnx x.1 x.2.1 (qnx x.1 x.2.1 p))) σ4 := cT_next T3 hk4 ha4 f4 t4_
                        have F4 : cSf σ σ4 := cSf_cg F3 (cg_of f4)
                        clear ha4
                        have N4 : σ4 102 4 = (σ 102 4) + 1 := (congrFun ((cg_of f4).1 102 (by decide)) 4).trans N3
                        refine And.intro (show 0 ≤ 1 ∧ 1 ≤ 1 from by omega) ?_
                        refine And.intro (show 0 ≤ 1 ∧ 1 ≤ 1 from by omega) ?_
                        have hB := (cT_bg hT).2.2.1 (by omega)
                        have e3 : qsg3 x (qnx x.1 x.2.1 p) = true := (cT_s3 T1).mpr (by omega)
                        have e4 : qkd x.1 x.2.1 x.2.2 (qnx x.1 x.2.1 (qnx x.1 x.2.1 p)) = 2 := (cT_nks T2).2.1.mpr cu37
                        exact h1 (qnx x.1 x.2.1 (qnx x.1 x.2.1 (qnx x.1 x.2.1 p))) σ4 T4 F4 ⟨by rw [N4]; exact Int.le_refl _, by rw [N4]; exact hon⟩ (fun b L => by rw [N4]; exact (qN_og hT hn ((qop_s (by omega) hlim).trans ((if_pos e3).trans (if_pos e4)))).trans qN_d)
                      · refine And.intro (show 0 ≤ 0 ∧ 0 ≤ 1 from by omega) ?_
                        refine And.intro (show 0 ≤ 0 ∧ 0 ≤ 1 from by omega) ?_
                        exfalso; omega
                  · refine And.intro (fun (q : ¬ 0 = 0) => absurd q (by decide)) (fun _ => ?_)
                    refine fun z (t40 : (z = 1 ∧ σ1 7 4 = 5 ∧ σ1 7 6 = 62) ∨ (z = 0 ∧ ¬ (σ1 7 4 = 5 ∧ σ1 7 6 = 62))) => ?_
                    rcases t40 with ⟨rfl, t40⟩ | ⟨rfl, t40⟩
                    · clear t32 t36
                      refine And.intro (fun _ => ?_) (fun (q : 1 = 0) => absurd q (by decide))
                      have hk2 : ¬ qkd x.1 x.2.1 x.2.2 (qnx x.1 x.2.1 p) = 0 ∧ ¬ qkd x.1 x.2.1 x.2.2 (qnx x.1 x.2.1 p) = 4 := by first | exact (cT_nks T1).1 (by omega) | omega
                      refine And.intro (cT_nx ⟨T1, hk2⟩) (fun s2 (σ2 : vS) ha2 f2 t2_ => ?_)
                      have T2 : cT x (qnx x.1 x.2.1 (qnx x.1 x.2.1 p)) σ2 := cT_next T1 hk2 ha2 f2 t2_
                      have F2 : cSf σ σ2 := cSf_cg F1 (cg_of f2)
                      clear ha2
                      have N2 : σ2 102 4 = (σ 102 4) + 1 := (congrFun ((cg_of f2).1 102 (by decide)) 4).trans N1
                      have vu41 := cT_v T2
                      refine ⟨(cT_fl T2 (by decide : (0 : Int) ≤ 1 ∧ (1 : Int) ≤ 4)).2, fun cu41 => ?_, fun cu41 du41 => ?_, fun cu41 du41 eu41 => ?_⟩
                      · refine And.intro (fun (q : ¬ (-1) = (-1)) => absurd q (by decide)) (fun _ => ?_)
                        refine And.intro (show 0 ≤ 0 ∧ 0 ≤ 1 from by omega) ?_
                        refine And.intro (show 0 ≤ 0 ∧ 0 ≤ 1 from by omega) ?_
                        have hB := (cT_bg hT).2.2.1 (by omega)
                        have e3 : qsg3 x (qnx x.1 x.2.1 p) = true := (cT_s3 T1).mpr (by omega)
                        have e4 : ¬ qkd x.1 x.2.1 x.2.2 (qnx x.1 x.2.1 (qnx x.1 x.2.1 p)) = 2 := fun q => cu41 ((cT_nks T2).2.1.mp q)
                        exact h0 1 (qnx x.1 x.2.1 (qnx x.1 x.2.1 p)) (σ 102 4 + 1) _ (by decide) (fun b L => qN_of ((qop_s (by omega) hlim).trans ((if_pos e3).trans (if_neg e4))) (by decide)) (cFl_of T2) (cSf_cg F2 cg_fl)
                      · exfalso; have := vu41 cu41; omega
                      · have wu41 := vu41 cu41
                        clear vu41 du41 eu41
                        refine And.intro (fun (c42 : ¬ (σ2 7 6) = (-1)) => ?_) (fun (c43 : (σ2 7 6) = (-1)) => ?_)
                        · refine And.intro (show -2147483648 ≤ ((σ1 7 6) * 100) ∧ ((σ1 7 6) * 100) ≤ 2147483647 from by omega) ?_
                          refine And.intro (show -2147483648 ≤ (((σ1 7 6) * 100) + (σ2 7 6)) ∧ (((σ1 7 6) * 100) + (σ2 7 6)) ≤ 2147483647 from by omega) ?_
                          refine And.intro (show ((0 : Int) ≤ r9 ∧ r9 ≤ 29) ∧ 0 ≤ (((σ1 7 6) * 100) + (σ2 7 6)) ∧ (((σ1 7 6) * 100) + (σ2 7 6)) ≤ 6299 from by omega) (fun (σ3 : vS) g3 n3 => ?_)
                          have T3 : cT x (qnx x.1 x.2.1 (qnx x.1 x.2.1 p)) σ3 := cT_sg T2 g3
                          have F3 : cSf σ σ3 := cSf_sg F2 g3
                          have N3 : σ3 102 4 = (σ 102 4) + 1 := n3.trans N2
                          have y3 : σ3 7 4 = σ2 7 4 := congrFun (g3 7 (by decide)) 4
                          have hk4 : ¬ qkd x.1 x.2.1 x.2.2 (qnx x.1 x.2.1 (qnx x.1 x.2.1 p)) = 0 ∧ ¬ qkd x.1 x.2.1 x.2.2 (qnx x.1 x.2.1 (qnx x.1 x.2.1 p)) = 4 := by first | exact (cT_nks T3).1 (by omega) | omega
                          refine And.intro (cT_nx ⟨T3, hk4⟩) (fun s4 (σ4 : vS) ha4 f4 t4_ => ?_)
                          have T4 : cT x (qnx x.1 x.2.1 (qnx x.1 x.2.1 (qnx x.1 x.2.1 p))) σ4 := cT_next T3 hk4 ha4 f4 t4_
                          have F4 : cSf σ σ4 := cSf_cg F3 (cg_of f4)
                          clear ha4
                          have N4 : σ4 102 4 = (σ 102 4) + 1 := (congrFun ((cg_of f4).1 102 (by decide)) 4).trans N3
                          refine And.intro (show 0 ≤ 1 ∧ 1 ≤ 1 from by omega) ?_
                          refine And.intro (show 0 ≤ 1 ∧ 1 ≤ 1 from by omega) ?_
                          have hB := (cT_bg hT).2.2.1 (by omega)
                          have e3 : qsg3 x (qnx x.1 x.2.1 p) = true := (cT_s3 T1).mpr (by omega)
                          have e4 : qkd x.1 x.2.1 x.2.2 (qnx x.1 x.2.1 (qnx x.1 x.2.1 p)) = 2 := (cT_nks T2).2.1.mpr cu41
                          exact h1 (qnx x.1 x.2.1 (qnx x.1 x.2.1 (qnx x.1 x.2.1 p))) σ4 T4 F4 ⟨by rw [N4]; exact Int.le_refl _, by rw [N4]; exact hon⟩ (fun b L => by rw [N4]; exact (qN_og hT hn ((qop_s (by omega) hlim).trans ((if_pos e3).trans (if_pos e4)))).trans qN_d)
                        · refine And.intro (show 0 ≤ 0 ∧ 0 ≤ 1 from by omega) ?_
                          refine And.intro (show 0 ≤ 0 ∧ 0 ≤ 1 from by omega) ?_
                          exfalso; omega
                    · refine And.intro (fun (q : ¬ 0 = 0) => absurd q (by decide)) (fun _ => ?_)
                      refine And.intro (cT_fl T1 (by omega)) ?_
                      refine And.intro (show 0 ≤ 0 ∧ 0 ≤ 1 from by omega) ?_
                      refine And.intro (show 0 ≤ 0 ∧ 0 ≤ 1 from by omega) ?_
                      have hB := (cT_bg hT).2.2.1 (by omega)
                      have e3 : ¬ qsg3 x (qnx x.1 x.2.1 p) = true := fun q => by have := (cT_s3 T1).mp q; omega
                      exact h0 1 (qnx x.1 x.2.1 p) (σ 102 4 + 1) _ (by decide) (fun b L => qN_of ((qop_s (by omega) hlim).trans (if_neg e3)) (by decide)) (cFl_of T1) (cSf_cg F1 cg_fl)
            · refine And.intro (cT_fl hT (by omega)) ?_
              refine And.intro (show 0 ≤ 0 ∧ 0 ≤ 1 from by omega) ?_
              have hB : ¬ qbeg x p = -1 := by
                by_cases e : σ 7 6 = 21
                · have := (cT_bg hT).2.1 (by omega); omega
                · have := (cT_bg hT).2.2.1 (by omega); omega
              exact h0 4 p (σ 102 4) _ (by decide) (fun b L => qN_of (qop_4 hB (by omega)) (by decide)) (cFl_of hT) (cSf_cg cSf_refl cg_fl)
        · refine And.intro (cT_fl hT (by omega)) ?_
          refine And.intro (show 0 ≤ 0 ∧ 0 ≤ 1 from by omega) ?_
          have hB : qbeg x p = -1 := (cT_bg hT).2.2.2 t1 (by omega)
          exact h0 1 p (σ 102 4) _ (by decide) (fun b L => qN_of (qop_1 hB) (by decide)) (cFl_of hT) (cSf_cg cSf_refl cg_fl)
  · exact absurd h id
theorem vt_52z_6 (X : zX gKX E) (B : zB E) (i55 : zOKR E md72 w gr_55_6 (vt55 6)) {d bo i : Int} (hK : K (some (.inl 0)) σ) : zGC E md72 w gr_52_6.1 15 [(0, .inr (.inl 102)), (1, .inr (.inl 7)), (2, .inr (.inl 93)), (3, .inl d), (4, .inl 0), (5, .inl bo), (6, .inl i)] σ K := by
  refine zbdC (fun hb => zgoR (⟨rfl, rfl, rfl⟩ : zalt gr_52_6 (gm_52, 8)) (⟨rfl, rfl, rfl⟩ : zalt gr_55_6 (gm_55, 7)) X B zOKR_no i55 (vLA_ok X B) (by decide) [] [(15, [0, 1, 2, 3, 4, 5, 6])] (fun m => Nat.beq m.2.2.2.2.2.2.length 59) (by decide +kernel) ?_)
  refine And.intro (fun _ => ?_) (fun (q : ¬ 0 = 0) => absurd q (by decide))
  refine And.intro (show 0 ≤ 0 ∧ 0 ≤ 1 from by omega) ?_
  exact hK
set_option maxRecDepth 16384 in
theorem vt_52l_6 (X : zX gKX E) (B : zB E) (i55 : zOKR E md72 w gr_55_6 (vt55 6)) {d o0 p0 : Int} {x : qX} {S : qS} {σ0 : vS} (hd : d = 6) (hS0 : cSn S σ0) (hn : x.2.1 ≤ 940) (h0 : ∀ (k p2 o2 : Int) (σ2 : vS), ¬ k = 0 → (∀ L : List Int, qN x S false d d L o0 p0 = (k, p2, o2)) → cFl x k p2 σ2 → cSf σ0 σ2 → K (some (.inl 0)) σ2) (h1 : ∀ (p2 : Int) (σ2 : vS), cT x p2 σ2 → cSf σ0 σ2 → (o0 + 1 ≤ σ2 102 4 ∧ σ2 102 4 ≤ 20) → (∀ L : List Int, qN x S false d d L o0 p0 = qN x S true d d L (σ2 102 4) p2) → ¬ (qisw x p2 (qrw 20) = true ∨ qisw x p2 (qrw 19) = true) → K (some (.inl 1)) σ2) : ∀ (m : Nat) (bo i : Int) (σ : vS) (p : Int), 21 - i < (m : Int) → 0 ≤ i → (0 ≤ bo ∧ bo ≤ 1) → i + 1 ≤ σ 102 4 → cT x p σ → cSf σ0 σ → (o0 + 1 ≤ σ 102 4 ∧ σ 102 4 ≤ 20) → (∀ L : List Int, qN x S false d d L o0 p0 = qN x S true d d L (σ 102 4) p) → zGC E md72 w gr_52_6.1 15 [(0, .inr (.inl 102)), (1, .inr (.inl 7)), (2, .inr (.inl 93)), (3, .inl d), (4, .inl 1), (5, .inl bo), (6, .inl i)] σ K := by
  intro m
  induction m with
  | zero => intro bo i σ p h a c e; omega
  | succ m ih =>
    intro bo i σ p hm hi hbo hio hT hF ho hq
    have hS := cSn_f hS0 hF
    refine zbdC (fun hb => zgoR (⟨rfl, rfl, rfl⟩ : zalt gr_52_6 (gm_52, 8)) (⟨rfl, rfl, rfl⟩ : zalt gr_55_6 (gm_55, 7)) X B zOKR_no i55 (vLA_ok X B) (by decide) [] [(15, [0, 1, 2, 3, 4, 5, 6])] (fun m => Nat.beq m.2.2.2.2.2.2.length 59) (by decide +kernel) ?_)
    refine And.intro (fun (q : 1 = 0) => absurd q (by decide)) (fun _ => ?_)
    refine And.intro (fun (c1 : 20 < i) => ?_) (fun (c2 : i ≤ 20) => ?_)
    · refine And.intro (show 0 ≤ 0 ∧ 0 ≤ 1 from by omega) ?_
      exfalso; omega
    · refine fun (r3 : Int) (t4 : (σ 7 4 = 2 ∧ r3 = σ 7 6) ∨ (¬ σ 7 4 = 2 ∧ r3 = -1)) => ?_
      refine And.intro (fun (c5 : bo = 0) => ?_) (fun (c6 : ¬ bo = 0) => ?_)
      · refine And.intro (fun (c7 : r3 = 20) => ?_) (fun (c8 : ¬ r3 = 20) => ?_)
        · have hj : qisw x p (qrw 20) = true ∨ qisw x p (qrw 19) = true := by
            by_cases e : r3 = 20
            · exact Or.inl ((cT_kws hT (by decide)).mpr (by omega))
            · exact Or.inr ((cT_kws hT (by decide)).mpr (by omega))
          have eJ : ∀ L : List Int, qN x S true d d L (σ 102 4) p = qN x S false d d L (σ 102 4) (qnx x.1 x.2.1 p) := fun L => qN_jn hT hn hj
          have hkj : qkd x.1 x.2.1 x.2.2 p = 1 := hj.elim qisw_k qisw_k
          have hk1 : ¬ qkd x.1 x.2.1 x.2.2 p = 0 ∧ ¬ qkd x.1 x.2.1 x.2.2 p = 4 := by first | exact (cT_nks hT).1 (by omega) | omega
          refine And.intro (cT_nx ⟨hT, hk1⟩) (fun s1 (σ1 : vS) ha1 f1 t1_ => ?_)
          have T1 : cT x (qnx x.1 x.2.1 p) σ1 := cT_next hT hk1 ha1 f1 t1_
          have F1 : cSf σ σ1 := cSf_cg cSf_refl (cg_of f1)
          clear ha1
          have N1 : σ1 102 4 = σ 102 4 := congrFun ((cg_of f1).1 102 (by decide)) 4
          refine ⟨show d = 6 from by omega, x, (qnx x.1 x.2.1 p), S, ⟨T1, cSn_f hS F1, hn⟩, fun k2 p2 o2 (σ2 : vS) hk2 (q2 : (∀ (b : Int) (L : List Int), qN x S false d b L (σ1 102 4) (qnx x.1 x.2.1 p) = (k2, p2, o2))) fl2 g2 => ?_, fun p2 (σ2 : vS) (T2 : cT x p2 σ2) g2 m2 (q2 : (∀ (b : Int) (L : List Int), qN x S false d b L (σ1 102 4) (qnx x.1 x.2.1 p) = qN x S true b b L (σ2 102 4) p2)) => ?_⟩
          · rw [N1] at q2
            have F2 : cSf σ σ2 := cSf_tr F1 g2
            refine And.intro (fun (q : ¬ r3 = 20) => (by exfalso; omega)) (fun _ => ?_)
            refine And.intro (show ((0 : Int) ≤ 20 ∧ 20 ≤ 29) ∧ 0 ≤ 0 ∧ 0 ≤ 6299 from by omega) (fun (σ3 : vS) g3 n3 => ?_)
            have F3 : cSf σ σ3 := cSf_sg F2 g3
            have y3 : σ3 7 4 = σ2 7 4 := congrFun (g3 7 (by decide)) 4
            refine And.intro (show -2147483648 ≤ (i + 1) ∧ (i + 1) ≤ 2147483647 from by omega) ?_
            show zGC E md72 w gr_52_6.1 15 [(0, .inr (.inl 102)), (1, .inr (.inl 7)), (2, .inr (.inl 93)), (3, .inl d), (4, .inl 0), (5, .inl bo), (6, .inl (i + 1))] σ3 K
            exact vt_52z_6 X B i55 (h0 k2 p2 o2 σ3 hk2 (fun L => ((hq L).trans (eJ L)).trans (q2 d L)) (cFl_sg fl2 g3) (cSf_tr hF F3))
          · rw [N1] at q2 m2
            have F2 : cSf σ σ2 := cSf_tr F1 g2
            refine And.intro (fun (q : ¬ r3 = 20) => (by exfalso; omega)) (fun _ => ?_)
            refine And.intro (show ((0 : Int) ≤ 20 ∧ 20 ≤ 29) ∧ 0 ≤ 0 ∧ 0 ≤ 6299 from by omega) (fun (σ3 : vS) g3 n3 => ?_)
            have T3 : cT x p2 σ3 := cT_sg T2 g3
            have F3 : cSf σ σ3 := cSf_sg F2 g3
            have N3 : σ3 102 4 = σ2 102 4 := n3
            have y3 : σ3 7 4 = σ2 7 4 := congrFun (g3 7 (by decide)) 4
            refine And.intro (show -2147483648 ≤ (i + 1) ∧ (i + 1) ≤ 2147483647 from by omega) ?_
            show zGC E md72 w gr_52_6.1 15 [(0, .inr (.inl 102)), (1, .inr (.inl 7)), (2, .inr (.inl 93)), (3, .inl d), (4, .inl 1), (5, .inl bo), (6, .inl (i + 1))] σ3 K
            exact ih bo (i + 1) σ3 p2 (by omega) (by omega) (by omega) (by omega) T3 (cSf_tr hF F3) (by omega) (fun L => by rw [N3]; exact ((hq L).trans (eJ L)).trans (q2 d L))
        · refine And.intro (fun (c9 : r3 = 19) => ?_) (fun (c10 : ¬ r3 = 19) => ?_)
          · have hj : qisw x p (qrw 20) = true ∨ qisw x p (qrw 19) = true := by
              by_cases e : r3 = 20
              · exact Or.inl ((cT_kws hT (by decide)).mpr (by omega))
              · exact Or.inr ((cT_kws hT (by decide)).mpr (by omega))
            have eJ : ∀ L : List Int, qN x S true d d L (σ 102 4) p = qN x S false d d L (σ 102 4) (qnx x.1 x.2.1 p) := fun L => qN_jn hT hn hj
            have hkj : qkd x.1 x.2.1 x.2.2 p = 1 := hj.elim qisw_k qisw_k
            have hk1 : ¬ qkd x.1 x.2.1 x.2.2 p = 0 ∧ ¬ qkd x.1 x.2.1 x.2.2 p = 4 := by first | exact (cT_nks hT).1 (by omega) | omega
            refine And.intro (cT_nx ⟨hT, hk1⟩) (fun s1 (σ1 : vS) ha1 f1 t1_ => ?_)
            have T1 : cT x (qnx x.1 x.2.1 p) σ1 := cT_next hT hk1 ha1 f1 t1_
            have F1 : cSf σ σ1 := cSf_cg cSf_refl (cg_of f1)
            clear ha1
            have N1 : σ1 102 4 = σ 102 4 := congrFun ((cg_of f1).1 102 (by decide)) 4
            refine ⟨show d = 6 from by omega, x, (qnx x.1 x.2.1 p), S, ⟨T1, cSn_f hS F1, hn⟩, fun k2 p2 o2 (σ2 : vS) hk2 (q2 : (∀ (b : Int) (L : List Int), qN x S false d b L (σ1 102 4) (qnx x.1 x.2.1 p) = (k2, p2, o2))) fl2 g2 => ?_, fun p2 (σ2 : vS) (T2 : cT x p2 σ2) g2 m2 (q2 : (∀ (b : Int) (L : List Int), qN x S false d b L (σ1 102 4) (qnx x.1 x.2.1 p) = qN x S true b b L (σ2 102 4) p2)) => ?_⟩
            · rw [N1] at q2
              have F2 : cSf σ σ2 := cSf_tr F1 g2
              refine And.intro (fun _ => ?_) (fun (q : r3 = 20) => (by exfalso; omega))
              refine And.intro (show -2147483648 ≤ (i + 1) ∧ (i + 1) ≤ 2147483647 from by omega) ?_
              show zGC E md72 w gr_52_6.1 15 [(0, .inr (.inl 102)), (1, .inr (.inl 7)), (2, .inr (.inl 93)), (3, .inl d), (4, .inl 0), (5, .inl 1), (6, .inl (i + 1))] σ2 K
              exact vt_52z_6 X B i55 (h0 k2 p2 o2 σ2 hk2 (fun L => ((hq L).trans (eJ L)).trans (q2 d L)) fl2 (cSf_tr hF F2))
            · rw [N1] at q2 m2
              have F2 : cSf σ σ2 := cSf_tr F1 g2
              refine And.intro (fun _ => ?_) (fun (q : r3 = 20) => (by exfalso; omega))
              refine And.intro (show -2147483648 ≤ (i + 1) ∧ (i + 1) ≤ 2147483647 from by omega) ?_
              show zGC E md72 w gr_52_6.1 15 [(0, .inr (.inl 102)), (1, .inr (.inl 7)), (2, .inr (.inl 93)), (3, .inl d), (4, .inl 1), (5, .inl 1), (6, .inl (i + 1))] σ2 K
              exact ih 1 (i + 1) σ2 p2 (by omega) (by omega) (by omega) (by omega) T2 (cSf_tr hF F2) (by omega) (fun L => by exact ((hq L).trans (eJ L)).trans (q2 d L))
          · refine And.intro (show 0 ≤ 1 ∧ 1 ≤ 1 from by omega) ?_
            have hj : ¬ (qisw x p (qrw 20) = true ∨ qisw x p (qrw 19) = true) := fun q => q.elim (fun q => by have := (cT_kws hT (j := 20) (by decide)).mp q; omega) (fun q => by have := (cT_kws hT (j := 19) (by decide)).mp q; omega)
            exact h1 p σ hT (cSf_tr hF cSf_refl) (by omega) (fun L => by exact hq L) hj
      · refine And.intro (fun (c11 : r3 = 20) => ?_) (fun (c12 : ¬ r3 = 20) => ?_)
        · refine And.intro (fun _ => ?_) (fun (q : ¬ r3 = 20) => (by exfalso; omega))
          have hj : qisw x p (qrw 20) = true ∨ qisw x p (qrw 19) = true := by
            by_cases e : r3 = 20
            · exact Or.inl ((cT_kws hT (by decide)).mpr (by omega))
            · exact Or.inr ((cT_kws hT (by decide)).mpr (by omega))
          have eJ : ∀ L : List Int, qN x S true d d L (σ 102 4) p = qN x S false d d L (σ 102 4) (qnx x.1 x.2.1 p) := fun L => qN_jn hT hn hj
          have hkj : qkd x.1 x.2.1 x.2.2 p = 1 := hj.elim qisw_k qisw_k
          have hk1 : ¬ qkd x.1 x.2.1 x.2.2 p = 0 ∧ ¬ qkd x.1 x.2.1 x.2.2 p = 4 := by first | exact (cT_nks hT).1 (by omega) | omega
          refine And.intro (cT_nx ⟨hT, hk1⟩) (fun s1 (σ1 : vS) ha1 f1 t1_ => ?_)
          have T1 : cT x (qnx x.1 x.2.1 p) σ1 := cT_next hT hk1 ha1 f1 t1_
          have F1 : cSf σ σ1 := cSf_cg cSf_refl (cg_of f1)
          clear ha1
          have N1 : σ1 102 4 = σ 102 4 := congrFun ((cg_of f1).1 102 (by decide)) 4
          refine ⟨show d = 6 from by omega, x, (qnx x.1 x.2.1 p), S, ⟨T1, cSn_f hS F1, hn⟩, fun k2 p2 o2 (σ2 : vS) hk2 (q2 : (∀ (b : Int) (L : List Int), qN x S false d b L (σ1 102 4) (qnx x.1 x.2.1 p) = (k2, p2, o2))) fl2 g2 => ?_, fun p2 (σ2 : vS) (T2 : cT x p2 σ2) g2 m2 (q2 : (∀ (b : Int) (L : List Int), qN x S false d b L (σ1 102 4) (qnx x.1 x.2.1 p) = qN x S true b b L (σ2 102 4) p2)) => ?_⟩
          · rw [N1] at q2
            have F2 : cSf σ σ2 := cSf_tr F1 g2
            refine And.intro (fun (q : ¬ r3 = 20) => (by exfalso; omega)) (fun _ => ?_)
            refine And.intro (show ((0 : Int) ≤ 20 ∧ 20 ≤ 29) ∧ 0 ≤ 0 ∧ 0 ≤ 6299 from by omega) (fun (σ3 : vS) g3 n3 => ?_)
            have F3 : cSf σ σ3 := cSf_sg F2 g3
            have y3 : σ3 7 4 = σ2 7 4 := congrFun (g3 7 (by decide)) 4
            refine And.intro (show -2147483648 ≤ (i + 1) ∧ (i + 1) ≤ 2147483647 from by omega) ?_
            show zGC E md72 w gr_52_6.1 15 [(0, .inr (.inl 102)), (1, .inr (.inl 7)), (2, .inr (.inl 93)), (3, .inl d), (4, .inl 0), (5, .inl bo), (6, .inl (i + 1))] σ3 K
            exact vt_52z_6 X B i55 (h0 k2 p2 o2 σ3 hk2 (fun L => ((hq L).trans (eJ L)).trans (q2 d L)) (cFl_sg fl2 g3) (cSf_tr hF F3))
          · rw [N1] at q2 m2
            have F2 : cSf σ σ2 := cSf_tr F1 g2
            refine And.intro (fun (q : ¬ r3 = 20) => (by exfalso; omega)) (fun _ => ?_)
            refine And.intro (show ((0 : Int) ≤ 20 ∧ 20 ≤ 29) ∧ 0 ≤ 0 ∧ 0 ≤ 6299 from by omega) (fun (σ3 : vS) g3 n3 => ?_)
            have T3 : cT x p2 σ3 := cT_sg T2 g3
            have F3 : cSf σ σ3 := cSf_sg F2 g3
            have N3 : σ3 102 4 = σ2 102 4 := n3
            have y3 : σ3 7 4 = σ2 7 4 := congrFun (g3 7 (by decide)) 4
            refine And.intro (show -2147483648 ≤ (i + 1) ∧ (i + 1) ≤ 2147483647 from by omega) ?_
            show zGC E md72 w gr_52_6.1 15 [(0, .inr (.inl 102)), (1, .inr (.inl 7)), (2, .inr (.inl 93)), (3, .inl d), (4, .inl 1), (5, .inl bo), (6, .inl (i + 1))] σ3 K
            exact ih bo (i + 1) σ3 p2 (by omega) (by omega) (by omega) (by omega) T3 (cSf_tr hF F3) (by omega) (fun L => by rw [N3]; exact ((hq L).trans (eJ L)).trans (q2 d L))
        · refine And.intro (show ((0 : Int) ≤ 19 ∧ 19 ≤ 29) ∧ 0 ≤ 0 ∧ 0 ≤ 6299 from by omega) (fun (σ1 : vS) g1 n1 => ?_)
          have T1 : cT x p σ1 := cT_sg hT g1
          have F1 : cSf σ σ1 := cSf_sg cSf_refl g1
          have N1 : σ1 102 4 = σ 102 4 := n1
          have y1 : σ1 7 4 = σ 7 4 := congrFun (g1 7 (by decide)) 4
          refine And.intro (fun (c13 : r3 = 20) => ?_) (fun (c14 : ¬ r3 = 20) => ?_)
          · have hj : qisw x p (qrw 20) = true ∨ qisw x p (qrw 19) = true := by
              by_cases e : r3 = 20
              · exact Or.inl ((cT_kws hT (by decide)).mpr (by omega))
              · exact Or.inr ((cT_kws hT (by decide)).mpr (by omega))
            have eJ : ∀ L : List Int, qN x S true d d L (σ 102 4) p = qN x S false d d L (σ 102 4) (qnx x.1 x.2.1 p) := fun L => qN_jn hT hn hj
            have hkj : qkd x.1 x.2.1 x.2.2 p = 1 := hj.elim qisw_k qisw_k
            have hk2 : ¬ qkd x.1 x.2.1 x.2.2 p = 0 ∧ ¬ qkd x.1 x.2.1 x.2.2 p = 4 := by first | exact (cT_nks T1).1 (by omega) | omega
            refine And.intro (cT_nx ⟨T1, hk2⟩) (fun s2 (σ2 : vS) ha2 f2 t2_ => ?_)
            have T2 : cT x (qnx x.1 x.2.1 p) σ2 := cT_next T1 hk2 ha2 f2 t2_
            have F2 : cSf σ σ2 := cSf_cg F1 (cg_of f2)
            clear ha2
            have N2 : σ2 102 4 = σ 102 4 := (congrFun ((cg_of f2).1 102 (by decide)) 4).trans N1
            refine ⟨show d = 6 from by omega, x, (qnx x.1 x.2.1 p), S, ⟨T2, cSn_f hS F2, hn⟩, fun k3 p3 o3 (σ3 : vS) hk3 (q3 : (∀ (b : Int) (L : List Int), qN x S false d b L (σ2 102 4) (qnx x.1 x.2.1 p) = (k3, p3, o3))) fl3 g3 => ?_, fun p3 (σ3 : vS) (T3 : cT x p3 σ3) g3 m3 (q3 : (∀ (b : Int) (L : List Int), qN x S false d b L (σ2 102 4) (qnx x.1 x.2.1 p) = qN x S true b b L (σ3 102 4) p3)) => ?_⟩
            · rw [N2] at q3
              have F3 : cSf σ σ3 := cSf_tr F2 g3
              refine And.intro (fun (q : ¬ r3 = 20) => (by exfalso; omega)) (fun _ => ?_)
              refine And.intro (show ((0 : Int) ≤ 20 ∧ 20 ≤ 29) ∧ 0 ≤ 0 ∧ 0 ≤ 6299 from by omega) (fun (σ4 : vS) g4 n4 => ?_)
              have F4 : cSf σ σ4 := cSf_sg F3 g4
              have y4 : σ4 7 4 = σ3 7 4 := congrFun (g4 7 (by decide)) 4
              refine And.intro (show -2147483648 ≤ (i + 1) ∧ (i + 1) ≤ 2147483647 from by omega) ?_
              show zGC E md72 w gr_52_6.1 15 [(0, .inr (.inl 102)), (1, .inr (.inl 7)), (2, .inr (.inl 93)), (3, .inl d), (4, .inl 0), (5, .inl 0), (6, .inl (i + 1))] σ4 K
              exact vt_52z_6 X B i55 (h0 k3 p3 o3 σ4 hk3 (fun L => ((hq L).trans (eJ L)).trans (q3 d L)) (cFl_sg fl3 g4) (cSf_tr hF F4))
            · rw [N2] at q3 m3
              have F3 : cSf σ σ3 := cSf_tr F2 g3
              refine And.intro (fun (q : ¬ r3 = 20) => (by exfalso; omega)) (fun _ => ?_)
              refine And.intro (show ((0 : Int) ≤ 20 ∧ 20 ≤ 29) ∧ 0 ≤ 0 ∧ 0 ≤ 6299 from by omega) (fun (σ4 : vS) g4 n4 => ?_)
              have T4 : cT x p3 σ4 := cT_sg T3 g4
              have F4 : cSf σ σ4 := cSf_sg F3 g4
              have N4 : σ4 102 4 = σ3 102 4 := n4
              have y4 : σ4 7 4 = σ3 7 4 := congrFun (g4 7 (by decide)) 4
              refine And.intro (show -2147483648 ≤ (i + 1) ∧ (i + 1) ≤ 2147483647 from by omega) ?_
              show zGC E md72 w gr_52_6.1 15 [(0, .inr (.inl 102)), (1, .inr (.inl 7)), (2, .inr (.inl 93)), (3, .inl d), (4, .inl 1), (5, .inl 0), (6, .inl (i + 1))] σ4 K
              exact ih 0 (i + 1) σ4 p3 (by omega) (by omega) (by omega) (by omega) T4 (cSf_tr hF F4) (by omega) (fun L => by rw [N4]; exact ((hq L).trans (eJ L)).trans (q3 d L))
          · refine And.intro (fun (c15 : r3 = 19) => ?_) (fun (c16 : ¬ r3 = 19) => ?_)
            · have hj : qisw x p (qrw 20) = true ∨ qisw x p (qrw 19) = true := by
                by_cases e : r3 = 20
                · exact Or.inl ((cT_kws hT (by decide)).mpr (by omega))
                · exact Or.inr ((cT_kws hT (by decide)).mpr (by omega))
              have eJ : ∀ L : List Int, qN x S true d d L (σ 102 4) p = qN x S false d d L (σ 102 4) (qnx x.1 x.2.1 p) := fun L => qN_jn hT hn hj
              have hkj : qkd x.1 x.2.1 x.2.2 p = 1 := hj.elim qisw_k qisw_k
              have hk2 : ¬ qkd x.1 x.2.1 x.2.2 p = 0 ∧ ¬ qkd x.1 x.2.1 x.2.2 p = 4 := by first | exact (cT_nks T1).1 (by omega) | omega
              refine And.intro (cT_nx ⟨T1, hk2⟩) (fun s2 (σ2 : vS) ha2 f2 t2_ => ?_)
              have T2 : cT x (qnx x.1 x.2.1 p) σ2 := cT_next T1 hk2 ha2 f2 t2_
              have F2 : cSf σ σ2 := cSf_cg F1 (cg_of f2)
              clear ha2
              have N2 : σ2 102 4 = σ 102 4 := (congrFun ((cg_of f2).1 102 (by decide)) 4).trans N1
              refine ⟨show d = 6 from by omega, x, (qnx x.1 x.2.1 p), S, ⟨T2, cSn_f hS F2, hn⟩, fun k3 p3 o3 (σ3 : vS) hk3 (q3 : (∀ (b : Int) (L : List Int), qN x S false d b L (σ2 102 4) (qnx x.1 x.2.1 p) = (k3, p3, o3))) fl3 g3 => ?_, fun p3 (σ3 : vS) (T3 : cT x p3 σ3) g3 m3 (q3 : (∀ (b : Int) (L : List Int), qN x S false d b L (σ2 102 4) (qnx x.1 x.2.1 p) = qN x S true b b L (σ3 102 4) p3)) => ?_⟩
              · rw [N2] at q3
                have F3 : cSf σ σ3 := cSf_tr F2 g3
                refine And.intro (fun _ => ?_) (fun (q : r3 = 20) => (by exfalso; omega))
                refine And.intro (show -2147483648 ≤ (i + 1) ∧ (i + 1) ≤ 2147483647 from by omega) ?_
                show zGC E md72 w gr_52_6.1 15 [(0, .inr (.inl 102)), (1, .inr (.inl 7)), (2, .inr (.inl 93)), (3, .inl d), (4, .inl 0), (5, .inl 1), (6, .inl (i + 1))] σ3 K
                exact vt_52z_6 X B i55 (h0 k3 p3 o3 σ3 hk3 (fun L => ((hq L).trans (eJ L)).trans (q3 d L)) fl3 (cSf_tr hF F3))
              · rw [N2] at q3 m3
                have F3 : cSf σ σ3 := cSf_tr F2 g3
                refine And.intro (fun _ => ?_) (fun (q : r3 = 20) => (by exfalso; omega))
                refine And.intro (show -2147483648 ≤ (i + 1) ∧ (i + 1) ≤ 2147483647 from by omega) ?_
                show zGC E md72 w gr_52_6.1 15 [(0, .inr (.inl 102)), (1, .inr (.inl 7)), (2, .inr (.inl 93)), (3, .inl d), (4, .inl 1), (5, .inl 1), (6, .inl (i + 1))] σ3 K
                exact ih 1 (i + 1) σ3 p3 (by omega) (by omega) (by omega) (by omega) T3 (cSf_tr hF F3) (by omega) (fun L => by exact ((hq L).trans (eJ L)).trans (q3 d L))
            · refine And.intro (show 0 ≤ 1 ∧ 1 ≤ 1 from by omega) ?_
              have hj : ¬ (qisw x p (qrw 20) = true ∨ qisw x p (qrw 19) = true) := fun q => q.elim (fun q => by have := (cT_kws hT (j := 20) (by decide)).mp q; omega) (fun q => by have := (cT_kws hT (j := 19) (by decide)).mp q; omega)
              exact h1 p σ1 T1 (cSf_tr hF F1) (by omega) (fun L => by rw [N1]; exact hq L) hj
set_option maxRecDepth 16384 in
theorem vt_52_6 (X : zX gKX E) (B : zB E) (i55 : zOKR E md72 w gr_55_6 (vt55 6)) : zOKR E md72 w gr_52_6 (vt52 6) := by
  intro vs σ K h
  unfold vt52 at h
  split at h
  · rename_i d
    obtain ⟨hd, x, p, S, ⟨hT, hS, hn⟩, h0, h1⟩ := h
    show zGC E md72 w gr_52_6.1 0 [(0, .inr (.inl 102)), (1, .inr (.inl 7)), (2, .inr (.inl 93)), (3, .inl d)] σ K
    refine zbdC (fun hb0 => ?_)
    have b4 : 0 ≤ σ 102 4 ∧ σ 102 4 ≤ 20 := zfC hb0 (t := 102) (f := 4) (by decide +kernel)
    refine zbdC (fun hb => zgoR (⟨rfl, rfl, rfl⟩ : zalt gr_52_6 (gm_52, 8)) (⟨rfl, rfl, rfl⟩ : zalt gr_55_6 (gm_55, 7)) X B zOKR_no i55 (vLA_ok X B) (by decide) [] [(15, [0, 1, 2, 3, 4, 5, 6])] (fun m => Nat.beq m.2.2.2.2.2.2.length 59) (by decide +kernel) ?_)
    refine ⟨show d = 6 from by omega, x, p, S, ⟨hT, cSn_f hS cSf_refl, hn⟩, fun k1 p1 o1 (σ1 : vS) hk1 (q1 : (∀ (b : Int) (L : List Int), qN x S false d b L (σ 102 4) p = (k1, p1, o1))) fl1 g1 => ?_, fun p1 (σ1 : vS) (T1 : cT x p1 σ1) g1 m1 (q1 : (∀ (b : Int) (L : List Int), qN x S false d b L (σ 102 4) p = qN x S true b b L (σ1 102 4) p1)) => ?_⟩
    · have F1 : cSf σ σ1 := cSf_tr cSf_refl g1
      show zGC E md72 w gr_52_6.1 15 [(0, .inr (.inl 102)), (1, .inr (.inl 7)), (2, .inr (.inl 93)), (3, .inl d), (4, .inl 0), (5, .inl 0), (6, .inl 0)] σ1 K
      exact vt_52z_6 X B i55 (h0 k1 p1 o1 σ1 hk1 (fun L => q1 d L) fl1 F1)
    · have F1 : cSf σ σ1 := cSf_tr cSf_refl g1
      show zGC E md72 w gr_52_6.1 15 [(0, .inr (.inl 102)), (1, .inr (.inl 7)), (2, .inr (.inl 93)), (3, .inl d), (4, .inl 1), (5, .inl 0), (6, .inl 0)] σ1 K
      exact vt_52l_6 X B i55 hd hS hn h0 h1 22 0 0 σ1 p1 (by omega) (by omega) (by omega) (by omega) T1 F1 (by omega) (fun L => q1 d L)
  · exact absurd h id
set_option maxRecDepth 16384 in
theorem vt_55_5 (X : zX gKX E) (B : zB E) (i55 : zOKR E md72 w gr_55_6 (vt55 6)) (i52 : zOKR E md72 w gr_52_6 (vt52 6)) : zOKR E md72 w gr_55_5 (vt55 5) := by
  intro vs σ K h
  unfold vt55 at h
  split at h
  · rename_i d
    obtain ⟨hd, x, p, S, ⟨hT, hS, hn⟩, h0, h1⟩ := h
    show zGC E md72 w gr_55_5.1 0 [(0, .inr (.inl 102)), (1, .inr (.inl 7)), (2, .inr (.inl 93)), (3, .inl d)] σ K
    refine zbdC (fun hb => zgoR (⟨rfl, rfl, rfl⟩ : zalt gr_52_6 (gm_52, 8)) (⟨rfl, rfl, rfl⟩ : zalt gr_55_6 (gm_55, 7)) X B i52 i55 (vLA_ok X B) (by decide) [] [] (fun m => false) (by decide +kernel) ?_)
    refine fun z (t1 : (z = 1 ∧ σ 7 4 = 5 ∧ σ 7 6 = 40) ∨ (z = 0 ∧ ¬ (σ 7 4 = 5 ∧ σ 7 6 = 40))) => ?_
    rcases t1 with ⟨rfl, t1⟩ | ⟨rfl, t1⟩
    · refine fun (r2 : Int) (t3 : (σ 7 4 = 2 ∧ r2 = σ 7 6) ∨ (¬ σ 7 4 = 2 ∧ r2 = -1)) => ?_
      refine And.intro (fun _ => ?_) (fun (q : 1 = 0) => absurd q (by decide))
      have f4 : 0 ≤ σ 102 4 ∧ σ 102 4 ≤ 20 := zfC hb (t := 102) (f := 4) (by decide +kernel)
      refine And.intro (fun (c5 : 20 ≤ (σ 102 4)) => ?_) (fun (c6 : (σ 102 4) < 20) => ?_)
      · refine And.intro (cT_fl hT (by omega)) ?_
        refine And.intro (show 0 ≤ 0 ∧ 0 ≤ 1 from by omega) ?_
        have hB : ¬ qbeg x p = -1 := by have := (cT_bg hT).1 t1; omega
        exact h0 4 p (σ 102 4) _ (by decide) (fun b L => qN_of (qop_4 hB (by omega)) (by decide)) (cFl_of hT) (cSf_cg cSf_refl cg_fl)
      · refine And.intro (fun (c7 : d ≤ 8) => ?_) (fun (c8 : 8 < d) => ?_)
        · refine And.intro (show -2147483648 ≤ ((σ 102 4) + 1) ∧ ((σ 102 4) + 1) ≤ 2147483647 from by omega) ?_
          refine And.intro (show 0 ≤ ((σ 102 4) + 1) ∧ ((σ 102 4) + 1) ≤ 20 from by omega) ?_
          have hlim : ¬ (σ 102 4 = 20 ∨ 8 < d) := by omega
          have hB : qbeg x p = 9 := (cT_bg hT).1 t1
          have hon : σ 102 4 + 1 ≤ 20 := by omega
          have hk1 : ¬ qkd x.1 x.2.1 x.2.2 p = 0 ∧ ¬ qkd x.1 x.2.1 x.2.2 p = 4 := by first | exact (cT_nks hT).1 (by omega) | omega
          refine And.intro (cT_nx ⟨(cT_t hT (by decide)), hk1⟩) (fun s1 (σ1 : vS) ha1 f1 t1_ => ?_)
          have T1 : cT x (qnx x.1 x.2.1 p) σ1 := cT_next (cT_t hT (by decide)) hk1 ha1 f1 t1_
          have F1 : cSf σ σ1 := cSf_cg (cSf_up (by decide) cSf_refl) (cg_of f1)
          clear ha1
          clear t3
          have N1 : σ1 102 4 = (σ 102 4) + 1 := (congrFun ((cg_of f1).1 102 (by decide)) 4).trans vup_eq
          refine And.intro (fun (q : 1 = 0) => absurd q (by decide)) (fun _ => ?_)
          refine And.intro (show -2147483648 ≤ (d + 1) ∧ (d + 1) ≤ 2147483647 from by omega) ?_
          have eA : ∀ (b : Int) (L : List Int), qN x S false d b L (σ 102 4) p = qN x S false (d + 1) (d + 1) (b :: L) (σ 102 4 + 1) (qnx x.1 x.2.1 p) := fun b L => qN_og hT hn (qop_9 hB hlim)
          refine ⟨show d + 1 = 6 from by omega, x, (qnx x.1 x.2.1 p), S, ⟨T1, cSn_f hS F1, hn⟩, fun k2 p2 o2 (σ2 : vS) hk2 (q2 : (∀ L : List Int, qN x S false (d + 1) (d + 1) L (σ1 102 4) (qnx x.1 x.2.1 p) = (k2, p2, o2))) fl2 g2 => ?_, fun p2 (σ2 : vS) (T2 : cT x p2 σ2) g2 m2 (q2 : (∀ L : List Int, qN x S false (d + 1) (d + 1) L (σ1 102 4) (qnx x.1 x.2.1 p) = qN x S true (d + 1) (d + 1) L (σ2 102 4) p2)) hj2 => ?_⟩
          · rw [N1] at q2
            have F2 : cSf σ σ2 := cSf_tr F1 g2
            refine And.intro (fun _ => ?_) (fun (q : ¬ 0 = 0) => absurd q (by decide))
            refine And.intro (show 0 ≤ 0 ∧ 0 ≤ 1 from by omega) ?_
            exact h0 k2 p2 o2 σ2 hk2 (fun b L => (eA b L).trans (q2 (b :: L))) fl2 F2
          · rw [N1] at q2 m2
            have F2 : cSf σ σ2 := cSf_tr F1 g2
            refine And.intro (fun (q : 1 = 0) => absurd q (by decide)) (fun _ => ?_)
            refine ⟨x, p2, T2, fun e3 (σ3 : vS) fl3 g3 => ?_, fun e3 (σ3 : vS) T3 g3 => ?_⟩
            · have F3 : cSf σ σ3 := cSf_cg F2 g3
              refine And.intro (fun _ => ?_) (fun (q : ¬ 0 = 0) => absurd q (by decide))
              refine And.intro (show 0 ≤ 0 ∧ 0 ≤ 1 from by omega) ?_
              exact h0 1 p2 (σ2 102 4) σ3 (by decide) (fun b L => ((eA b L).trans (q2 (b :: L))).trans (qN_nc hj2 e3)) fl3 F3
            · have F3 : cSf σ σ3 := cSf_cg F2 g3
              have N3 : σ3 102 4 = σ2 102 4 := congrFun (g3.1 102 (by decide)) 4
              refine And.intro (fun (q : 1 = 0) => absurd q (by decide)) (fun _ => ?_)
              refine And.intro (show 0 ≤ 1 ∧ 1 ≤ 1 from by omega) ?_
              exact h1 (qnx x.1 x.2.1 p2) σ3 T3 F3 (by omega) (fun b L => by rw [N3]; exact ((eA b L).trans (q2 (b :: L))).trans (qN_cl T2 hn hj2 e3))
        · refine And.intro (cT_fl hT (by omega)) ?_
          refine And.intro (show 0 ≤ 0 ∧ 0 ≤ 1 from by omega) ?_
          have hB : ¬ qbeg x p = -1 := by have := (cT_bg hT).1 t1; omega
          exact h0 4 p (σ 102 4) _ (by decide) (fun b L => qN_of (qop_4 hB (by omega)) (by decide)) (cFl_of hT) (cSf_cg cSf_refl cg_fl)
    · refine fun (r9 : Int) (t10 : (σ 7 4 = 2 ∧ r9 = σ 7 6) ∨ (¬ σ 7 4 = 2 ∧ r9 = -1)) => ?_
      refine And.intro (fun (q : ¬ 0 = 0) => absurd q (by decide)) (fun _ => ?_)
      refine And.intro (fun (c11 : r9 < 21) => ?_) (fun (c12 : 21 ≤ r9) => ?_)
      · refine And.intro (cT_fl hT (by omega)) ?_
        refine And.intro (show 0 ≤ 0 ∧ 0 ≤ 1 from by omega) ?_
        have hB : qbeg x p = -1 := (cT_bg hT).2.2.2 t1 (by omega)
        exact h0 1 p (σ 102 4) _ (by decide) (fun b L => qN_of (qop_1 hB) (by decide)) (cFl_of hT) (cSf_cg cSf_refl cg_fl)
      · refine And.intro (fun (c13 : r9 ≤ 29) => ?_) (fun (c14 : 29 < r9) => ?_)
        · have f15 : 0 ≤ σ 102 4 ∧ σ 102 4 ≤ 20 := zfC hb (t := 102) (f := 4) (by decide +kernel)
          refine And.intro (fun (c16 : 20 ≤ (σ 102 4)) => ?_) (fun (c17 : (σ 102 4) < 20) => ?_)
          · refine And.intro (cT_fl hT (by omega)) ?_
            refine And.intro (show 0 ≤ 0 ∧ 0 ≤ 1 from by omega) ?_
            have hB : ¬ qbeg x p = -1 := by
              by_cases e : σ 7 6 = 21
              · have := (cT_bg hT).2.1 (by omega); omega
              · have := (cT_bg hT).2.2.1 (by omega); omega
            exact h0 4 p (σ 102 4) _ (by decide) (fun b L => qN_of (qop_4 hB (by omega)) (by decide)) (cFl_of hT) (cSf_cg cSf_refl cg_fl)
          · refine And.intro (fun (c18 : d ≤ 8) => ?_) (fun (c19 : 8 < d) => ?_)
            · refine And.intro (show -2147483648 ≤ ((σ 102 4) + 1) ∧ ((σ 102 4) + 1) ≤ 2147483647 from by omega) ?_
              refine And.intro (show 0 ≤ ((σ 102 4) + 1) ∧ ((σ 102 4) + 1) ≤ 20 from by omega) ?_
              have hlim : ¬ (σ 102 4 = 20 ∨ 8 < d) := by omega
              have hon : σ 102 4 + 1 ≤ 20 := by omega
              have hr : σ 7 4 = 2 ∧ r9 = σ 7 6 := by omega
              have hk1 : ¬ qkd x.1 x.2.1 x.2.2 p = 0 ∧ ¬ qkd x.1 x.2.1 x.2.2 p = 4 := by first | exact (cT_nks hT).1 (by omega) | omega
              refine And.intro (cT_nx ⟨(cT_t hT (by decide)), hk1⟩) (fun s1 (σ1 : vS) ha1 f1 t1_ => ?_)
              have T1 : cT x (qnx x.1 x.2.1 p) σ1 := cT_next (cT_t hT (by decide)) hk1 ha1 f1 t1_
              have F1 : cSf σ σ1 := cSf_cg (cSf_up (by decide) cSf_refl) (cg_of f1)
              clear ha1
              clear t10 t1
              have N1 : σ1 102 4 = (σ 102 4) + 1 := (congrFun ((cg_of f1).1 102 (by decide)) 4).trans vup_eq
              refine And.intro (fun _ => ?_) (fun (q : ¬ 0 = 0) => absurd q (by decide))
              refine And.intro (And.intro (fun (c20 : r9 = 21) => ?_) (And.intro (fun (c21 : r9 = 22) => ?_) (And.intro (fun (c22 : r9 = 23) => ?_) (And.intro (fun (c23 : r9 = 24) => ?_) (And.intro (fun (c24 : r9 = 25) => ?_) (trivial)))))) (fun (c25 : r9 < 21 ∨ 25 < r9) => ?_)
              · refine And.intro (show -2147483648 ≤ (d + 1) ∧ (d + 1) ≤ 2147483647 from by omega) ?_
                have hB : qbeg x p = 8 := (cT_bg hT).2.1 (by omega)
                have eA : ∀ (b : Int) (L : List Int), qN x S false d b L (σ 102 4) p = qN x S false (d + 1) b L (σ 102 4 + 1) (qnx x.1 x.2.1 p) := fun b L => qN_og hT hn (qop_8 hB hlim)
                refine ⟨show d + 1 = 6 from by omega, x, (qnx x.1 x.2.1 p), S, ⟨T1, cSn_f hS F1, hn⟩, fun k2 p2 o2 (σ2 : vS) hk2 (q2 : (∀ (b : Int) (L : List Int), qN x S false (d + 1) b L (σ1 102 4) (qnx x.1 x.2.1 p) = (k2, p2, o2))) fl2 g2 => ?_, fun p2 (σ2 : vS) (T2 : cT x p2 σ2) g2 m2 (q2 : (∀ (b : Int) (L : List Int), qN x S false (d + 1) b L (σ1 102 4) (qnx x.1 x.2.1 p) = qN x S true b b L (σ2 102 4) p2)) => ?_⟩
                · rw [N1] at q2
                  have F2 : cSf σ σ2 := cSf_tr F1 g2
                  refine And.intro (show ((0 : Int) ≤ 21 ∧ 21 ≤ 29) ∧ 0 ≤ 0 ∧ 0 ≤ 6299 from by omega) (fun (σ3 : vS) g3 n3 => ?_)
                  have F3 : cSf σ σ3 := cSf_sg F2 g3
                  have y3 : σ3 7 4 = σ2 7 4 := congrFun (g3 7 (by decide)) 4
                  refine And.intro (show 0 ≤ 0 ∧ 0 ≤ 1 from by omega) ?_
                  exact h0 k2 p2 o2 σ3 hk2 (fun b L => (eA b L).trans (q2 b L)) (cFl_sg fl2 g3) F3
                · rw [N1] at q2 m2
                  have F2 : cSf σ σ2 := cSf_tr F1 g2
                  refine And.intro (show ((0 : Int) ≤ 21 ∧ 21 ≤ 29) ∧ 0 ≤ 0 ∧ 0 ≤ 6299 from by omega) (fun (σ3 : vS) g3 n3 => ?_)
                  have T3 : cT x p2 σ3 := cT_sg T2 g3
                  have F3 : cSf σ σ3 := cSf_sg F2 g3
                  have N3 : σ3 102 4 = σ2 102 4 := n3
                  have y3 : σ3 7 4 = σ2 7 4 := congrFun (g3 7 (by decide)) 4
                  refine And.intro (show 0 ≤ 1 ∧ 1 ≤ 1 from by omega) ?_
                  exact h1 p2 σ3 T3 F3 (by omega) (fun b L => by rw [N3]; exact (eA b L).trans (q2 b L))
              · refine And.intro (show ((0 : Int) ≤ r9 ∧ r9 ≤ 29) ∧ 0 ≤ 0 ∧ 0 ≤ 6299 from by omega) (fun (σ2 : vS) g2 n2 => ?_)
                have T2 : cT x (qnx x.1 x.2.1 p) σ2 := cT_sg T1 g2
                have F2 : cSf σ σ2 := cSf_sg F1 g2
                have N2 : σ2 102 4 = (σ 102 4) + 1 := n2.trans N1
                have y2 : σ2 7 4 = σ1 7 4 := congrFun (g2 7 (by decide)) 4
                refine And.intro (show 0 ≤ 1 ∧ 1 ≤ 1 from by omega) ?_
                have hB := (cT_bg hT).2.2.1 (by omega)
                exact h1 (qnx x.1 x.2.1 p) σ2 T2 F2 ⟨by rw [N2]; exact Int.le_refl _, by rw [N2]; exact hon⟩ (fun b L => by rw [N2]; exact (qN_og hT hn (qop_l (by omega) hlim)).trans qN_d)
              · refine And.intro (show ((0 : Int) ≤ r9 ∧ r9 ≤ 29) ∧ 0 ≤ 0 ∧ 0 ≤ 6299 from by omega) (fun (σ2 : vS) g2 n2 => ?_)
                have T2 : cT x (qnx x.1 x.2.1 p) σ2 := cT_sg T1 g2
                have F2 : cSf σ σ2 := cSf_sg F1 g2
                have N2 : σ2 102 4 = (σ 102 4) + 1 := n2.trans N1
                have y2 : σ2 7 4 = σ1 7 4 := congrFun (g2 7 (by decide)) 4
                refine And.intro (show 0 ≤ 1 ∧ 1 ≤ 1 from by omega) ?_
                have hB := (cT_bg hT).2.2.1 (by omega)
                exact h1 (qnx x.1 x.2.1 p) σ2 T2 F2 ⟨by rw [N2]; exact Int.le_refl _, by rw [N2]; exact hon⟩ (fun b L => by rw [N2]; exact (qN_og hT hn (qop_l (by omega) hlim)).trans qN_d)
              · have hB : qbeg x p = 2 := by have := (cT_bg hT).2.2.1 (by omega); omega
                obtain ⟨r1, r2, r3⟩ := qof_b (x := x) (S := S) (p := (qnx x.1 x.2.1 p)) hS.2 (k := 2) (by omega)
                have eM : ∀ (b : Int) (L : List Int), qop x S.2.2 (S.2.1 0) (S.2.1 1) d b L (σ 102 4) p = if (qofn x S.2.2 (S.2.1 0) (S.2.1 1) 2 (qnx x.1 x.2.1 p)) < 0 then (-(qofn x S.2.2 (S.2.1 0) (S.2.1 1) 2 (qnx x.1 x.2.1 p)), ((qnx x.1 x.2.1 p), true, d, b, L, σ 102 4 + 1)) else (0, (qnx x.1 x.2.1 (qnx x.1 x.2.1 p), true, d, b, L, σ 102 4 + 1)) := fun b L => by
                  have e := qop_m (x := x) (nm := S.2.2) (mh := S.2.1 0) (mo := S.2.1 1) (d := d) (b := b) (L := L) (o := σ 102 4) (p := p) (by omega) hlim
                  rw [hB] at e
                  exact e
                refine ⟨by omega, x, ((qnx x.1 x.2.1 p), S.2), S.2.1 1, T1, (cSn_f hS F1).1, hS.2, fun q => absurd q (by decide), fun _ => ⟨rfl, fun c2 (σ2 : vS) fl2 g2 => ?_, fun c2 => ?_⟩, fun q => absurd q (by decide)⟩
                · clear r3
                  have c2 : (qofn x S.2.2 (S.2.1 0) (S.2.1 1) 2 (qnx x.1 x.2.1 p)) < 0 := c2
                  have fl2 : cFl x (-(qofn x S.2.2 (S.2.1 0) (S.2.1 1) 2 (qnx x.1 x.2.1 p))) (qnx x.1 x.2.1 p) σ2 := fl2
                  have F2 : cSf σ σ2 := cSf_cg F1 g2
                  refine And.intro (fun (q : ¬ (-1) = (-1)) => absurd q (by decide)) (fun _ => ?_)
                  refine And.intro (show 0 ≤ 0 ∧ 0 ≤ 1 from by omega) ?_
                  refine And.intro (show 0 ≤ 0 ∧ 0 ≤ 1 from by omega) ?_
                  exact h0 (-(qofn x S.2.2 (S.2.1 0) (S.2.1 1) 2 (qnx x.1 x.2.1 p))) (qnx x.1 x.2.1 p) (σ 102 4 + 1) σ2 (by omega) (fun b L => qN_of ((eM b L).trans (if_pos c2)) (by omega)) fl2 F2
                · have c2 : 0 ≤ (qofn x S.2.2 (S.2.1 0) (S.2.1 1) 2 (qnx x.1 x.2.1 p)) := c2
                  have kq2 := r3 c2
                  clear r3
                  have eR26 : qlk x 6 (S.2.1 1) ((qnx x.1 x.2.1 p), S.2) = (qofn x S.2.2 (S.2.1 0) (S.2.1 1) 2 (qnx x.1 x.2.1 p)) := rfl
                  rw [eR26]
                  refine And.intro (fun (c27 : ¬ ((qofn x S.2.2 (S.2.1 0) (S.2.1 1) 2 (qnx x.1 x.2.1 p))) = (-1)) => ?_) (fun (c28 : ((qofn x S.2.2 (S.2.1 0) (S.2.1 1) 2 (qnx x.1 x.2.1 p))) = (-1)) => ?_)
                  · refine And.intro (show ((0 : Int) ≤ r9 ∧ r9 ≤ 29) ∧ 0 ≤ ((qofn x S.2.2 (S.2.1 0) (S.2.1 1) 2 (qnx x.1 x.2.1 p))) ∧ ((qofn x S.2.2 (S.2.1 0) (S.2.1 1) 2 (qnx x.1 x.2.1 p))) ≤ 6299 from by omega) (fun (σ2 : vS) g2 n2 => ?_)
                    have T2 : cT x (qnx x.1 x.2.1 p) σ2 := cT_sg T1 g2
                    have F2 : cSf σ σ2 := cSf_sg F1 g2
                    have N2 : σ2 102 4 = (σ 102 4) + 1 := n2.trans N1
                    have y2 : σ2 7 4 = σ1 7 4 := congrFun (g2 7 (by decide)) 4
                    have hk3 : ¬ qkd x.1 x.2.1 x.2.2 (qnx x.1 x.2.1 p) = 0 ∧ ¬ qkd x.1 x.2.1 x.2.2 (qnx x.1 x.2.1 p) = 4 := by first | exact (cT_nks T2).1 (by omega) | omega
                    refine And.intro (cT_nx ⟨T2, hk3⟩) (fun s3 (σ3 : vS) ha3 f3 t3_ => ?_)
                    have T3 : cT x (qnx x.1 x.2.1 (qnx x.1 x.2.1 p)) σ3 := cT_next T2 hk3 ha3 f3 t3_
                    have F3 : cSf σ σ3 := cSf_cg F2 (cg_of f3)
                    clear ha3
                    have N3 : σ3 102 4 = (σ 102 4) + 1 := (congrFun ((cg_of f3).1 102 (by decide)) 4).trans N2
                    refine And.intro (show 0 ≤ 1 ∧ 1 ≤ 1 from by omega) ?_
                    refine And.intro (show 0 ≤ 1 ∧ 1 ≤ 1 from by omega) ?_
                    exact h1 (qnx x.1 x.2.1 (qnx x.1 x.2.1 p)) σ3 T3 F3 ⟨by rw [N3]; exact Int.le_refl _, by rw [N3]; exact hon⟩ (fun b L => by rw [N3]; exact (qN_og hT hn ((eM b L).trans (if_neg (by omega)))).trans qN_d)
                  · refine And.intro (show 0 ≤ 0 ∧ 0 ≤ 1 from by omega) ?_
                    refine And.intro (show 0 ≤ 0 ∧ 0 ≤ 1 from by omega) ?_
                    exfalso; omega
              · have hB : qbeg x p = 3 := by have := (cT_bg hT).2.2.1 (by omega); omega
                obtain ⟨r1, r2, r3⟩ := qof_b (x := x) (S := S) (p := (qnx x.1 x.2.1 p)) hS.2 (k := 3) (by omega)
                have eM : ∀ (b : Int) (L : List Int), qop x S.2.2 (S.2.1 0) (S.2.1 1) d b L (σ 102 4) p = if (qofn x S.2.2 (S.2.1 0) (S.2.1 1) 3 (qnx x.1 x.2.1 p)) < 0 then (-(qofn x S.2.2 (S.2.1 0) (S.2.1 1) 3 (qnx x.1 x.2.1 p)), ((qnx x.1 x.2.1 p), true, d, b, L, σ 102 4 + 1)) else (0, (qnx x.1 x.2.1 (qnx x.1 x.2.1 p), true, d, b, L, σ 102 4 + 1)) := fun b L => by
                  have e := qop_m (x := x) (nm := S.2.2) (mh := S.2.1 0) (mo := S.2.1 1) (d := d) (b := b) (L := L) (o := σ 102 4) (p := p) (by omega) hlim
                  rw [hB] at e
                  exact e
                refine ⟨by omega, x, ((qnx x.1 x.2.1 p), S.2), S.2.1 0, T1, (cSn_f hS F1).1, hS.2, fun _ => ⟨rfl, fun c2 (σ2 : vS) fl2 g2 => ?_, fun c2 => ?_⟩, fun q => absurd q (by decide), fun q => absurd q (by decide)⟩
                · clear r3
                  have c2 : (qofn x S.2.2 (S.2.1 0) (S.2.1 1) 3 (qnx x.1 x.2.1 p)) < 0 := c2
                  have fl2 : cFl x (-(qofn x S.2.2 (S.2.1 0) (S.2.1 1) 3 (qnx x.1 x.2.1 p))) (qnx x.1 x.2.1 p) σ2 := fl2
                  have F2 : cSf σ σ2 := cSf_cg F1 g2
                  refine And.intro (fun (q : ¬ (-1) = (-1)) => absurd q (by decide)) (fun _ => ?_)
                  refine And.intro (show 0 ≤ 0 ∧ 0 ≤ 1 from by omega) ?_
                  refine And.intro (show 0 ≤ 0 ∧ 0 ≤ 1 from by omega) ?_
                  exact h0 (-(qofn x S.2.2 (S.2.1 0) (S.2.1 1) 3 (qnx x.1 x.2.1 p))) (qnx x.1 x.2.1 p) (σ 102 4 + 1) σ2 (by omega) (fun b L => qN_of ((eM b L).trans (if_pos c2)) (by omega)) fl2 F2
                · have c2 : 0 ≤ (qofn x S.2.2 (S.2.1 0) (S.2.1 1) 3 (qnx x.1 x.2.1 p)) := c2
                  have kq2 := r3 c2
                  clear r3
                  have eR29 : qlk x 0 (S.2.1 0) ((qnx x.1 x.2.1 p), S.2) = (qofn x S.2.2 (S.2.1 0) (S.2.1 1) 3 (qnx x.1 x.2.1 p)) := rfl
                  rw [eR29]
                  refine And.intro (fun (c30 : ¬ ((qofn x S.2.2 (S.2.1 0) (S.2.1 1) 3 (qnx x.1 x.2.1 p))) = (-1)) => ?_) (fun (c31 : ((qofn x S.2.2 (S.2.1 0) (S.2.1 1) 3 (qnx x.1 x.2.1 p))) = (-1)) => ?_)
                  · refine And.intro (show ((0 : Int) ≤ r9 ∧ r9 ≤ 29) ∧ 0 ≤ ((qofn x S.2.2 (S.2.1 0) (S.2.1 1) 3 (qnx x.1 x.2.1 p))) ∧ ((qofn x S.2.2 (S.2.1 0) (S.2.1 1) 3 (qnx x.1 x.2.1 p))) ≤ 6299 from by omega) (fun (σ2 : vS) g2 n2 => ?_)
                    have T2 : cT x (qnx x.1 x.2.1 p) σ2 := cT_sg T1 g2
                    have F2 : cSf σ σ2 := cSf_sg F1 g2
                    have N2 : σ2 102 4 = (σ 102 4) + 1 := n2.trans N1
                    have y2 : σ2 7 4 = σ1 7 4 := congrFun (g2 7 (by decide)) 4
                    have hk3 : ¬ qkd x.1 x.2.1 x.2.2 (qnx x.1 x.2.1 p) = 0 ∧ ¬ qkd x.1 x.2.1 x.2.2 (qnx x.1 x.2.1 p) = 4 := by first | exact (cT_nks T2).1 (by omega) | omega
                    refine And.intro (cT_nx ⟨T2, hk3⟩) (fun s3 (σ3 : vS) ha3 f3 t3_ => ?_)
                    have T3 : cT x (qnx x.1 x.2.1 (qnx x.1 x.2.1 p)) σ3 := cT_next T2 hk3 ha3 f3 t3_
                    have F3 : cSf σ σ3 := cSf_cg F2 (cg_of f3)
                    clear ha3
                    have N3 : σ3 102 4 = (σ 102 4) + 1 := (congrFun ((cg_of f3).1 102 (by decide)) 4).trans N2
                    refine And.intro (show 0 ≤ 1 ∧ 1 ≤ 1 from by omega) ?_
                    refine And.intro (show 0 ≤ 1 ∧ 1 ≤ 1 from by omega) ?_
                    exact h1 (qnx x.1 x.2.1 (qnx x.1 x.2.1 p)) σ3 T3 F3 ⟨by rw [N3]; exact Int.le_refl _, by rw [N3]; exact hon⟩ (fun b L => by rw [N3]; exact (qN_og hT hn ((eM b L).trans (if_neg (by omega)))).trans qN_d)
                  · refine And.intro (show 0 ≤ 0 ∧ 0 ≤ 1 from by omega) ?_
                    refine And.intro (show 0 ≤ 0 ∧ 0 ≤ 1 from by omega) ?_
                    exfalso; omega
              · refine fun z (t32 : (z = 1 ∧ σ1 7 4 = 5 ∧ σ1 7 6 = 60) ∨ (z = 0 ∧ ¬ (σ1 7 4 = 5 ∧ σ1 7 6 = 60))) => ?_
                rcases t32 with ⟨rfl, t32⟩ | ⟨rfl, t32⟩
                · refine And.intro (fun _ => ?_) (fun (q : 1 = 0) => absurd q (by decide))
                  have hk2 : ¬ qkd x.1 x.2.1 x.2.2 (qnx x.1 x.2.1 p) = 0 ∧ ¬ qkd x.1 x.2.1 x.2.2 (qnx x.1 x.2.1 p) = 4 := by first | exact (cT_nks T1).1 (by omega) | omega
                  refine And.intro (cT_nx ⟨T1, hk2⟩) (fun s2 (σ2 : vS) ha2 f2 t2_ => ?_)
                  have T2 : cT x (qnx x.1 x.2.1 (qnx x.1 x.2.1 p)) σ2 := cT_next T1 hk2 ha2 f2 t2_
                  have F2 : cSf σ σ2 := cSf_cg F1 (cg_of f2)
                  clear ha2
                  have N2 : σ2 102 4 = (σ 102 4) + 1 := (congrFun ((cg_of f2).1 102 (by decide)) 4).trans N1
                  have vu33 := cT_v T2
                  refine ⟨(cT_fl T2 (by decide : (0 : Int) ≤ 1 ∧ (1 : Int) ≤ 4)).2, fun cu33 => ?_, fun cu33 du33 => ?_, fun cu33 du33 eu33 => ?_⟩
                  · refine And.intro (fun (q : ¬ (-1) = (-1)) => absurd q (by decide)) (fun _ => ?_)
                    refine And.intro (show 0 ≤ 0 ∧ 0 ≤ 1 from by omega) ?_
                    refine And.intro (show 0 ≤ 0 ∧ 0 ≤ 1 from by omega) ?_
                    have hB := (cT_bg hT).2.2.1 (by omega)
                    have e3 : qsg3 x (qnx x.1 x.2.1 p) = true := (cT_s3 T1).mpr (by omega)
                    have e4 : ¬ qkd x.1 x.2.1 x.2.2 (qnx x.1 x.2.1 (qnx x.1 x.2.1 p)) = 2 := fun q => cu33 ((cT_nks T2).2.1.mp q)
                    exact h0 1 (qnx x.1 x.2.1 (qnx x.1 x.2.1 p)) (σ 102 4 + 1) _ (by decide) (fun b L => qN_of ((qop_s (by omega) hlim).trans ((if_pos e3).trans (if_neg e4))) (by decide)) (cFl_of T2) (cSf_cg F2 cg_fl)
                  · exfalso; have := vu33 cu33; omega
                  · have wu33 := vu33 cu33
                    clear vu33 du33 eu33
                    refine And.intro (fun (c34 : ¬ (σ2 7 6) = (-1)) => ?_) (fun (c35 : (σ2 7 6) = (-1)) => ?_)
                    · refine And.intro (show -2147483648 ≤ ((σ1 7 6) * 100) ∧ ((σ1 7 6) * 100) ≤ 2147483647 from by omega) ?_
                      refine And.intro (show -2147483648 ≤ (((σ1 7 6) * 100) + (σ2 7 6)) ∧ (((σ1 7 6) * 100) + (σ2 7 6)) ≤ 2147483647 from by omega) ?_
                      refine And.intro (show ((0 : Int) ≤ r9 ∧ r9 ≤ 29) ∧ 0 ≤ (((σ1 7 6) * 100) + (σ2 7 6)) ∧ (((σ1 7 6) * 100) + (σ2 7 6)) ≤ 6299 from by omega) (fun (σ3 : vS) g3 n3 => ?_)
                      have T3 : cT x (qnx x.1 x.2.1 (qnx x.1 x.2.1 p)) σ3 := cT_sg T2 g3
                      have F3 : cSf σ σ3 := cSf_sg F2 g3
                      have N3 : σ3 102 4 = (σ 102 4) + 1 := n3.trans N2
                      have y3 : σ3 7 4 = σ2 7 4 := congrFun (g3 7 (by decide)) 4
                      have hk4 : ¬ qkd x.1 x.2.1 x.2.2 (qnx x.1 x.2.1 (qnx x.1 x.2.1 p)) = 0 ∧ ¬ qkd x.1 x.2.1 x.2.2 (qnx x.1 x.2.1 (qnx x.1 x.2.1 p)) = 4 := by first | exact (cT_nks T3).1 (by omega) | omega
                      refine And.intro (cT_nx ⟨T3, hk4⟩) (fun s4 (σ4 : vS) ha4 f4 t4_ => ?_)
                      have T4 : cT x (qnx x.1 x.2.1 (qnx x.1 x.2.1 (qnx x.1 x.2.1 p))) σ4 := cT_next T3 hk4 ha4 f4 t4_
                      have F4 : cSf σ σ4 := cSf_cg F3 (cg_of f4)
                      clear ha4
                      have N4 : σ4 102 4 = (σ 102 4) + 1 := (congrFun ((cg_of f4).1 102 (by decide)) 4).trans N3
                      refine And.intro (show 0 ≤ 1 ∧ 1 ≤ 1 from by omega) ?_
                      refine And.intro (show 0 ≤ 1 ∧ 1 ≤ 1 from by omega) ?_
                      have hB := (cT_bg hT).2.2.1 (by omega)
                      have e3 : qsg3 x (qnx x.1 x.2.1 p) = true := (cT_s3 T1).mpr (by omega)
                      have e4 : qkd x.1 x.2.1 x.2.2 (qnx x.1 x.2.1 (qnx x.1 x.2.1 p)) = 2 := (cT_nks T2).2.1.mpr cu33
                      exact h1 (qnx x.1 x.2.1 (qnx x.1 x.2.1 (qnx x.1 x.2.1 p))) σ4 T4 F4 ⟨by rw [N4]; exact Int.le_refl _, by rw [N4]; exact hon⟩ (fun b L => by rw [N4]; exact (qN_og hT hn ((qop_s (by omega) hlim).trans ((if_pos e3).trans (if_pos e4)))).trans qN_d)
                    · refine And.intro (show 0 ≤ 0 ∧ 0 ≤ 1 from by omega) ?_
                      refine And.intro (show 0 ≤ 0 ∧ 0 ≤ 1 from by omega) ?_
                      exfalso; omega
                · refine And.intro (fun (q : ¬ 0 = 0) => absurd q (by decide)) (fun _ => ?_)
                  refine fun z (t36 : (z = 1 ∧ σ1 7 4 = 5 ∧ σ1 7 6 = 61) ∨ (z = 0 ∧ ¬ (σ1 7 4 = 5 ∧ σ1 7 6 = 61))) => ?_
                  rcases t36 with ⟨rfl, t36⟩ | ⟨rfl, t36⟩
                  · clear t32
                    refine And.intro (fun _ => ?_) (fun (q : 1 = 0) => absurd q (by decide))
                    have hk2 : ¬ qkd x.1 x.2.1 x.2.2 (qnx x.1 x.2.1 p) = 0 ∧ ¬ qkd x.1 x.2.1 x.2.2 (qnx x.1 x.2.1 p) = 4 := by first | exact (cT_nks T1).1 (by omega) | omega
                    refine And.intro (cT_nx ⟨T1, hk2⟩) (fun s2 (σ2 : vS) ha2 f2 t2_ => ?_)
                    have T2 : cT x (qnx x.1 x.2.1 (qnx x.1 x.2.1 p)) σ2 := cT_next T1 hk2 ha2 f2 t2_
                    have F2 : cSf σ σ2 := cSf_cg F1 (cg_of f2)
                    clear ha2
                    have N2 : σ2 102 4 = (σ 102 4) + 1 := (congrFun ((cg_of f2).1 102 (by decide)) 4).trans N1
                    have vu37 := cT_v T2
                    refine ⟨(cT_fl T2 (by decide : (0 : Int) ≤ 1 ∧ (1 : Int) ≤ 4)).2, fun cu37 => ?_, fun cu37 du37 => ?_, fun cu37 du37 eu37 => ?_⟩
                    · refine And.intro (fun (q : ¬ (-1) = (-1)) => absurd q (by decide)) (fun _ => ?_)
                      refine And.intro (show 0 ≤ 0 ∧ 0 ≤ 1 from by omega) ?_
                      refine And.intro (show 0 ≤ 0 ∧ 0 ≤ 1 from by omega) ?_
                      have hB := (cT_bg hT).2.2.1 (by omega)
                      have e3 : qsg3 x (qnx x.1 x.2.1 p) = true := (cT_s3 T1).mpr (by omega)
                      have e4 : ¬ qkd x.1 x.2.1 x.2.2 (qnx x.1 x.2.1 (qnx x.1 x.2.1 p)) = 2 := fun q => cu37 ((cT_nks T2).2.1.mp q)
                      exact h0 1 (qnx x.1 x.2.1 (qnx x.1 x.2.1 p)) (σ 102 4 + 1) _ (by decide) (fun b L => qN_of ((qop_s (by omega) hlim).trans ((if_pos e3).trans (if_neg e4))) (by decide)) (cFl_of T2) (cSf_cg F2 cg_fl)
                    · exfalso; have := vu37 cu37; omega
                    · have wu37 := vu37 cu37
                      clear vu37 du37 eu37
                      refine And.intro (fun (c38 : ¬ (σ2 7 6) = (-1)) => ?_) (fun (c39 : (σ2 7 6) = (-1)) => ?_)
                      · refine And.intro (show -2147483648 ≤ ((σ1 7 6) * 100) ∧ ((σ1 7 6) * 100) ≤ 2147483647 from by omega) ?_
                        refine And.intro (show -2147483648 ≤ (((σ1 7 6) * 100) + (σ2 7 6)) ∧ (((σ1 7 6) * 100) + (σ2 7 6)) ≤ 2147483647 from by omega) ?_
                        refine And.intro (show ((0 : Int) ≤ r9 ∧ r9 ≤ 29) ∧ 0 ≤ (((σ1 7 6) * 100) + (σ2 7 6)) ∧ (((σ1 7 6) * 100) + (σ2 7 6)) ≤ 6299 from by omega) (fun (σ3 : vS) g3 n3 => ?_)
                        have T3 : cT x (qnx x.1 x.2.1 (qnx x.1 x.2.1 p)) σ3 := cT_sg T2 g3
                        have F3 : cSf σ σ3 := cSf_sg F2 g3
                        have N3 : σ3 102 4 = (σ 102 4) + 1 := n3.trans N2
                        have y3 : σ3 7 4 = σ2 7 4 := congrFun (g3 7 (by decide)) 4
                        have hk4 : ¬ qkd x.1 x.2.1 x.2.2 (qnx x.1 x.2.1 (qnx x.1 x.2.1 p)) = 0 ∧ ¬ qkd x.1 x.2.1 x.2.2 (qnx x.1 x.2.1 (qnx x.1 x.2.1 p)) = 4 := by first | exact (cT_nks T3).1 (by omega) | omega
                        refine And.intro (cT_nx ⟨T3, hk4⟩) (fun s4 (σ4 : vS) ha4 f4 t4_ => ?_)
                        have T4 : cT x (qnx x.1 x.2.1 (qnx x.1 x.2.1 (qnx x.1 x.2.1 p))) σ4 := cT_next T3 hk4 ha4 f4 t4_
                        have F4 : cSf σ σ4 := cSf_cg F3 (cg_of f4)
                        clear ha4
                        have N4 : σ4 102 4 = (σ 102 4) + 1 := (congrFun ((cg_of f4).1 102 (by decide)) 4).trans N3
                        refine And.intro (show 0 ≤ 1 ∧ 1 ≤ 1 from by omega) ?_
                        refine And.intro (show 0 ≤ 1 ∧ 1 ≤ 1 from by omega) ?_
                        have hB := (cT_bg hT).2.2.1 (by omega)
                        have e3 : qsg3 x (qnx x.1 x.2.1 p) = true := (cT_s3 T1).mpr (by omega)
                        have e4 : qkd x.1 x.2.1 x.2.2 (qnx x.1 x.2.1 (qnx x.1 x.2.1 p)) = 2 := (cT_nks T2).2.1.mpr cu37
                        exact h1 (qnx x.1 x.2.1 (qnx x.1 x.2.1 (qnx x.1 x.2.1 p))) σ4 T4 F4 ⟨by rw [N4]; exact Int.le_refl _, by rw [N4]; exact hon⟩ (fun b L => by rw [N4]; exact (qN_og hT hn ((qop_s (by omega) hlim).trans ((if_pos e3).trans (if_pos e4)))).trans qN_d)
                      · refine And.intro (show 0 ≤ 0 ∧ 0 ≤ 1 from by omega) ?_
                        refine And.intro (show 0 ≤ 0 ∧ 0 ≤ 1 from by omega) ?_
                        exfalso; omega
                  · refine And.intro (fun (q : ¬ 0 = 0) => absurd q (by decide)) (fun _ => ?_)
                    refine fun z (t40 : (z = 1 ∧ σ1 7 4 = 5 ∧ σ1 7 6 = 62) ∨ (z = 0 ∧ ¬ (σ1 7 4 = 5 ∧ σ1 7 6 = 62))) => ?_
                    rcases t40 with ⟨rfl, t40⟩ | ⟨rfl, t40⟩
                    · clear t32 t36
                      refine And.intro (fun _ => ?_) (fun (q : 1 = 0) => absurd q (by decide))
                      have hk2 : ¬ qkd x.1 x.2.1 x.2.2 (qnx x.1 x.2.1 p) = 0 ∧ ¬ qkd x.1 x.2.1 x.2.2 (qnx x.1 x.2.1 p) = 4 := by first | exact (cT_nks T1).1 (by omega) | omega
                      refine And.intro (cT_nx ⟨T1, hk2⟩) (fun s2 (σ2 : vS) ha2 f2 t2_ => ?_)
                      have T2 : cT x (qnx x.1 x.2.1 (qnx x.1 x.2.1 p)) σ2 := cT_next T1 hk2 ha2 f2 t2_
                      have F2 : cSf σ σ2 := cSf_cg F1 (cg_of f2)
                      clear ha2
                      have N2 : σ2 102 4 = (σ 102 4) + 1 := (congrFun ((cg_of f2).1 102 (by decide)) 4).trans N1
                      have vu41 := cT_v T2
                      refine ⟨(cT_fl T2 (by decide : (0 : Int) ≤ 1 ∧ (1 : Int) ≤ 4)).2, fun cu41 => ?_, fun cu41 du41 => ?_, fun cu41 du41 eu41 => ?_⟩
                      · refine And.intro (fun (q : ¬ (-1) = (-1)) => absurd q (by decide)) (fun _ => ?_)
                        refine And.intro (show 0 ≤ 0 ∧ 0 ≤ 1 from by omega) ?_
                        refine And.intro (show 0 ≤ 0 ∧ 0 ≤ 1 from by omega) ?_
                        have hB := (cT_bg hT).2.2.1 (by omega)
                        have e3 : qsg3 x (qnx x.1 x.2.1 p) = true := (cT_s3 T1).mpr (by omega)
                        have e4 : ¬ qkd x.1 x.2.1 x.2.2 (qnx x.1 x.2.1 (qnx x.1 x.2.1 p)) = 2 := fun q => cu41 ((cT_nks T2).2.1.mp q)
                        exact h0 1 (qnx x.1 x.2.1 (qnx x.1 x.2.1 p)) (σ 102 4 + 1) _ (by decide) (fun b L => qN_of ((qop_s (by omega) hlim).trans ((if_pos e3).trans (if_neg e4))) (by decide)) (cFl_of T2) (cSf_cg F2 cg_fl)
                      · exfalso; have := vu41 cu41; omega
                      · have wu41 := vu41 cu41
                        clear vu41 du41 eu41
                        refine And.intro (fun (c42 : ¬ (σ2 7 6) = (-1)) => ?_) (fun (c43 : (σ2 7 6) = (-1)) => ?_)
                        · refine And.intro (show -2147483648 ≤ ((σ1 7 6) * 100) ∧ ((σ1 7 6) * 100) ≤ 2147483647 from by omega) ?_
                          refine And.intro (show -2147483648 ≤ (((σ1 7 6) * 100) + (σ2 7 6)) ∧ (((σ1 7 6) * 100) + (σ2 7 6)) ≤ 2147483647 from by omega) ?_
                          refine And.intro (show ((0 : Int) ≤ r9 ∧ r9 ≤ 29) ∧ 0 ≤ (((σ1 7 6) * 100) + (σ2 7 6)) ∧ (((σ1 7 6) * 100) + (σ2 7 6)) ≤ 6299 from by omega) (fun (σ3 : vS) g3 n3 => ?_)
                          have T3 : cT x (qnx x.1 x.2.1 (qnx x.1 x.2.1 p)) σ3 := cT_sg T2 g3
                          have F3 : cSf σ σ3 := cSf_sg F2 g3
                          have N3 : σ3 102 4 = (σ 102 4) + 1 := n3.trans N2
                          have y3 : σ3 7 4 = σ2 7 4 := congrFun (g3 7 (by decide)) 4
                          have hk4 : ¬ qkd x.1 x.2.1 x.2.2 (qnx x.1 x.2.1 (qnx x.1 x.2.1 p)) = 0 ∧ ¬ qkd x.1 x.2.1 x.2.2 (qnx x.1 x.2.1 (qnx x.1 x.2.1 p)) = 4 := by first | exact (cT_nks T3).1 (by omega) | omega
                          refine And.intro (cT_nx ⟨T3, hk4⟩) (fun s4 (σ4 : vS) ha4 f4 t4_ => ?_)
                          have T4 : cT x (qnx x.1 x.2.1 (qnx x.1 x.2.1 (qnx x.1 x.2.1 p))) σ4 := cT_next T3 hk4 ha4 f4 t4_
                          have F4 : cSf σ σ4 := cSf_cg F3 (cg_of f4)
                          clear ha4
                          have N4 : σ4 102 4 = (σ 102 4) + 1 := (congrFun ((cg_of f4).1 102 (by decide)) 4).trans N3
                          refine And.intro (show 0 ≤ 1 ∧ 1 ≤ 1 from by omega) ?_
                          refine And.intro (show 0 ≤ 1 ∧ 1 ≤ 1 from by omega) ?_
                          have hB := (cT_bg hT).2.2.1 (by omega)
                          have e3 : qsg3 x (qnx x.1 x.2.1 p) = true := (cT_s3 T1).mpr (by omega)
                          have e4 : qkd x.1 x.2.1 x.2.2 (qnx x.1 x.2.1 (qnx x.1 x.2.1 p)) = 2 := (cT_nks T2).2.1.mpr cu41
                          exact h1 (qnx x.1 x.2.1 (qnx x.1 x.2.1 (qnx x.1 x.2.1 p))) σ4 T4 F4 ⟨by rw [N4]; exact Int.le_refl _, by rw [N4]; exact hon⟩ (fun b L => by rw [N4]; exact (qN_og hT hn ((qop_s (by omega) hlim).trans ((if_pos e3).trans (if_pos e4)))).trans qN_d)
                        · refine And.intro (show 0 ≤ 0 ∧ 0 ≤ 1 from by omega) ?_
                          refine And.intro (show 0 ≤ 0 ∧ 0 ≤ 1 from by omega) ?_
                          exfalso; omega
                    · refine And.intro (fun (q : ¬ 0 = 0) => absurd q (by decide)) (fun _ => ?_)
                      refine And.intro (cT_fl T1 (by omega)) ?_
                      refine And.intro (show 0 ≤ 0 ∧ 0 ≤ 1 from by omega) ?_
                      refine And.intro (show 0 ≤ 0 ∧ 0 ≤ 1 from by omega) ?_
                      have hB := (cT_bg hT).2.2.1 (by omega)
                      have e3 : ¬ qsg3 x (qnx x.1 x.2.1 p) = true := fun q => by have := (cT_s3 T1).mp q; omega
                      exact h0 1 (qnx x.1 x.2.1 p) (σ 102 4 + 1) _ (by decide) (fun b L => qN_of ((qop_s (by omega) hlim).trans (if_neg e3)) (by decide)) (cFl_of T1) (cSf_cg F1 cg_fl)
            · refine And.intro (cT_fl hT (by omega)) ?_
              refine And.intro (show 0 ≤ 0 ∧ 0 ≤ 1 from by omega) ?_
              have hB : ¬ qbeg x p = -1 := by
                by_cases e : σ 7 6 = 21
                · have := (cT_bg hT).2.1 (by omega); omega
                · have := (cT_bg hT).2.2.1 (by omega); omega
              exact h0 4 p (σ 102 4) _ (by decide) (fun b L => qN_of (qop_4 hB (by omega)) (by decide)) (cFl_of hT) (cSf_cg cSf_refl cg_fl)
        · refine And.intro (cT_fl hT (by omega)) ?_
          refine And.intro (show 0 ≤ 0 ∧ 0 ≤ 1 from by omega) ?_
          have hB : qbeg x p = -1 := (cT_bg hT).2.2.2 t1 (by omega)
          exact h0 1 p (σ 102 4) _ (by decide) (fun b L => qN_of (qop_1 hB) (by decide)) (cFl_of hT) (cSf_cg cSf_refl cg_fl)
  · exact absurd h id
theorem vt_52z_5 (X : zX gKX E) (B : zB E) (i55 : zOKR E md72 w gr_55_5 (vt55 5)) {d bo i : Int} (hK : K (some (.inl 0)) σ) : zGC E md72 w gr_52_5.1 15 [(0, .inr (.inl 102)), (1, .inr (.inl 7)), (2, .inr (.inl 93)), (3, .inl d), (4, .inl 0), (5, .inl bo), (6, .inl i)] σ K := by
  refine zbdC (fun hb => zgoR (⟨rfl, rfl, rfl⟩ : zalt gr_52_5 (gm_52, 8)) (⟨rfl, rfl, rfl⟩ : zalt gr_55_5 (gm_55, 7)) X B zOKR_no i55 (vLA_ok X B) (by decide) [] [(15, [0, 1, 2, 3, 4, 5, 6])] (fun m => Nat.beq m.2.2.2.2.2.2.length 59) (by decide +kernel) ?_)
  refine And.intro (fun _ => ?_) (fun (q : ¬ 0 = 0) => absurd q (by decide))
  refine And.intro (show 0 ≤ 0 ∧ 0 ≤ 1 from by omega) ?_
  exact hK
set_option maxRecDepth 16384 in
theorem vt_52l_5 (X : zX gKX E) (B : zB E) (i55 : zOKR E md72 w gr_55_5 (vt55 5)) {d o0 p0 : Int} {x : qX} {S : qS} {σ0 : vS} (hd : d = 5) (hS0 : cSn S σ0) (hn : x.2.1 ≤ 940) (h0 : ∀ (k p2 o2 : Int) (σ2 : vS), ¬ k = 0 → (∀ L : List Int, qN x S false d d L o0 p0 = (k, p2, o2)) → cFl x k p2 σ2 → cSf σ0 σ2 → K (some (.inl 0)) σ2) (h1 : ∀ (p2 : Int) (σ2 : vS), cT x p2 σ2 → cSf σ0 σ2 → (o0 + 1 ≤ σ2 102 4 ∧ σ2 102 4 ≤ 20) → (∀ L : List Int, qN x S false d d L o0 p0 = qN x S true d d L (σ2 102 4) p2) → ¬ (qisw x p2 (qrw 20) = true ∨ qisw x p2 (qrw 19) = true) → K (some (.inl 1)) σ2) : ∀ (m : Nat) (bo i : Int) (σ : vS) (p : Int), 21 - i < (m : Int) → 0 ≤ i → (0 ≤ bo ∧ bo ≤ 1) → i + 1 ≤ σ 102 4 → cT x p σ → cSf σ0 σ → (o0 + 1 ≤ σ 102 4 ∧ σ 102 4 ≤ 20) → (∀ L : List Int, qN x S false d d L o0 p0 = qN x S true d d L (σ 102 4) p) → zGC E md72 w gr_52_5.1 15 [(0, .inr (.inl 102)), (1, .inr (.inl 7)), (2, .inr (.inl 93)), (3, .inl d), (4, .inl 1), (5, .inl bo), (6, .inl i)] σ K := by
  intro m
  induction m with
  | zero => intro bo i σ p h a c e; omega
  | succ m ih =>
    intro bo i σ p hm hi hbo hio hT hF ho hq
    have hS := cSn_f hS0 hF
    refine zbdC (fun hb => zgoR (⟨rfl, rfl, rfl⟩ : zalt gr_52_5 (gm_52, 8)) (⟨rfl, rfl, rfl⟩ : zalt gr_55_5 (gm_55, 7)) X B zOKR_no i55 (vLA_ok X B) (by decide) [] [(15, [0, 1, 2, 3, 4, 5, 6])] (fun m => Nat.beq m.2.2.2.2.2.2.length 59) (by decide +kernel) ?_)
    refine And.intro (fun (q : 1 = 0) => absurd q (by decide)) (fun _ => ?_)
    refine And.intro (fun (c1 : 20 < i) => ?_) (fun (c2 : i ≤ 20) => ?_)
    · refine And.intro (show 0 ≤ 0 ∧ 0 ≤ 1 from by omega) ?_
      exfalso; omega
    · refine fun (r3 : Int) (t4 : (σ 7 4 = 2 ∧ r3 = σ 7 6) ∨ (¬ σ 7 4 = 2 ∧ r3 = -1)) => ?_
      refine And.intro (fun (c5 : bo = 0) => ?_) (fun (c6 : ¬ bo = 0) => ?_)
      · refine And.intro (fun (c7 : r3 = 20) => ?_) (fun (c8 : ¬ r3 = 20) => ?_)
        · have hj : qisw x p (qrw 20) = true ∨ qisw x p (qrw 19) = true := by
            by_cases e : r3 = 20
            · exact Or.inl ((cT_kws hT (by decide)).mpr (by omega))
            · exact Or.inr ((cT_kws hT (by decide)).mpr (by omega))
          have eJ : ∀ L : List Int, qN x S true d d L (σ 102 4) p = qN x S false d d L (σ 102 4) (qnx x.1 x.2.1 p) := fun L => qN_jn hT hn hj
          have hkj : qkd x.1 x.2.1 x.2.2 p = 1 := hj.elim qisw_k qisw_k
          have hk1 : ¬ qkd x.1 x.2.1 x.2.2 p = 0 ∧ ¬ qkd x.1 x.2.1 x.2.2 p = 4 := by first | exact (cT_nks hT).1 (by omega) | omega
          refine And.intro (cT_nx ⟨hT, hk1⟩) (fun s1 (σ1 : vS) ha1 f1 t1_ => ?_)
          have T1 : cT x (qnx x.1 x.2.1 p) σ1 := cT_next hT hk1 ha1 f1 t1_
          have F1 : cSf σ σ1 := cSf_cg cSf_refl (cg_of f1)
          clear ha1
          have N1 : σ1 102 4 = σ 102 4 := congrFun ((cg_of f1).1 102 (by decide)) 4
          refine ⟨show d = 5 from by omega, x, (qnx x.1 x.2.1 p), S, ⟨T1, cSn_f hS F1, hn⟩, fun k2 p2 o2 (σ2 : vS) hk2 (q2 : (∀ (b : Int) (L : List Int), qN x S false d b L (σ1 102 4) (qnx x.1 x.2.1 p) = (k2, p2, o2))) fl2 g2 => ?_, fun p2 (σ2 : vS) (T2 : cT x p2 σ2) g2 m2 (q2 : (∀ (b : Int) (L : List Int), qN x S false d b L (σ1 102 4) (qnx x.1 x.2.1 p) = qN x S true b b L (σ2 102 4) p2)) => ?_⟩
          · rw [N1] at q2
            have F2 : cSf σ σ2 := cSf_tr F1 g2
            refine And.intro (fun (q : ¬ r3 = 20) => (by exfalso; omega)) (fun _ => ?_)
            refine And.intro (show ((0 : Int) ≤ 20 ∧ 20 ≤ 29) ∧ 0 ≤ 0 ∧ 0 ≤ 6299 from by omega) (fun (σ3 : vS) g3 n3 => ?_)
            have F3 : cSf σ σ3 := cSf_sg F2 g3
            have y3 : σ3 7 4 = σ2 7 4 := congrFun (g3 7 (by decide)) 4
            refine And.intro (show -2147483648 ≤ (i + 1) ∧ (i + 1) ≤ 2147483647 from by omega) ?_
            show zGC E md72 w gr_52_5.1 15 [(0, .inr (.inl 102)), (1, .inr (.inl 7)), (2, .inr (.inl 93)), (3, .inl d), (4, .inl 0), (5, .inl bo), (6, .inl (i + 1))] σ3 K
            exact vt_52z_5 X B i55 (h0 k2 p2 o2 σ3 hk2 (fun L => ((hq L).trans (eJ L)).trans (q2 d L)) (cFl_sg fl2 g3) (cSf_tr hF F3))
          · rw [N1] at q2 m2
            have F2 : cSf σ σ2 := cSf_tr F1 g2
            refine And.intro (fun (q : ¬ r3 = 20) => (by exfalso; omega)) (fun _ => ?_)
            refine And.intro (show ((0 : Int) ≤ 20 ∧ 20 ≤ 29) ∧ 0 ≤ 0 ∧ 0 ≤ 6299 from by omega) (fun (σ3 : vS) g3 n3 => ?_)
            have T3 : cT x p2 σ3 := cT_sg T2 g3
            have F3 : cSf σ σ3 := cSf_sg F2 g3
            have N3 : σ3 102 4 = σ2 102 4 := n3
            have y3 : σ3 7 4 = σ2 7 4 := congrFun (g3 7 (by decide)) 4
            refine And.intro (show -2147483648 ≤ (i + 1) ∧ (i + 1) ≤ 2147483647 from by omega) ?_
            show zGC E md72 w gr_52_5.1 15 [(0, .inr (.inl 102)), (1, .inr (.inl 7)), (2, .inr (.inl 93)), (3, .inl d), (4, .inl 1), (5, .inl bo), (6, .inl (i + 1))] σ3 K
            exact ih bo (i + 1) σ3 p2 (by omega) (by omega) (by omega) (by omega) T3 (cSf_tr hF F3) (by omega) (fun L => by rw [N3]; exact ((hq L).trans (eJ L)).trans (q2 d L))
        · refine And.intro (fun (c9 : r3 = 19) => ?_) (fun (c10 : ¬ r3 = 19) => ?_)
          · have hj : qisw x p (qrw 20) = true ∨ qisw x p (qrw 19) = true := by
              by_cases e : r3 = 20
              · exact Or.inl ((cT_kws hT (by decide)).mpr (by omega))
              · exact Or.inr ((cT_kws hT (by decide)).mpr (by omega))
            have eJ : ∀ L : List Int, qN x S true d d L (σ 102 4) p = qN x S false d d L (σ 102 4) (qnx x.1 x.2.1 p) := fun L => qN_jn hT hn hj
            have hkj : qkd x.1 x.2.1 x.2.2 p = 1 := hj.elim qisw_k qisw_k
            have hk1 : ¬ qkd x.1 x.2.1 x.2.2 p = 0 ∧ ¬ qkd x.1 x.2.1 x.2.2 p = 4 := by first | exact (cT_nks hT).1 (by omega) | omega
            refine And.intro (cT_nx ⟨hT, hk1⟩) (fun s1 (σ1 : vS) ha1 f1 t1_ => ?_)
            have T1 : cT x (qnx x.1 x.2.1 p) σ1 := cT_next hT hk1 ha1 f1 t1_
            have F1 : cSf σ σ1 := cSf_cg cSf_refl (cg_of f1)
            clear ha1
            have N1 : σ1 102 4 = σ 102 4 := congrFun ((cg_of f1).1 102 (by decide)) 4
            refine ⟨show d = 5 from by omega, x, (qnx x.1 x.2.1 p), S, ⟨T1, cSn_f hS F1, hn⟩, fun k2 p2 o2 (σ2 : vS) hk2 (q2 : (∀ (b : Int) (L : List Int), qN x S false d b L (σ1 102 4) (qnx x.1 x.2.1 p) = (k2, p2, o2))) fl2 g2 => ?_, fun p2 (σ2 : vS) (T2 : cT x p2 σ2) g2 m2 (q2 : (∀ (b : Int) (L : List Int), qN x S false d b L (σ1 102 4) (qnx x.1 x.2.1 p) = qN x S true b b L (σ2 102 4) p2)) => ?_⟩
            · rw [N1] at q2
              have F2 : cSf σ σ2 := cSf_tr F1 g2
              refine And.intro (fun _ => ?_) (fun (q : r3 = 20) => (by exfalso; omega))
              refine And.intro (show -2147483648 ≤ (i + 1) ∧ (i + 1) ≤ 2147483647 from by omega) ?_
              show zGC E md72 w gr_52_5.1 15 [(0, .inr (.inl 102)), (1, .inr (.inl 7)), (2, .inr (.inl 93)), (3, .inl d), (4, .inl 0), (5, .inl 1), (6, .inl (i + 1))] σ2 K
              exact vt_52z_5 X B i55 (h0 k2 p2 o2 σ2 hk2 (fun L => ((hq L).trans (eJ L)).trans (q2 d L)) fl2 (cSf_tr hF F2))
            · rw [N1] at q2 m2
              have F2 : cSf σ σ2 := cSf_tr F1 g2
              refine And.intro (fun _ => ?_) (fun (q : r3 = 20) => (by exfalso; omega))
              refine And.intro (show -2147483648 ≤ (i + 1) ∧ (i + 1) ≤ 2147483647 from by omega) ?_
              show zGC E md72 w gr_52_5.1 15 [(0, .inr (.inl 102)), (1, .inr (.inl 7)), (2, .inr (.inl 93)), (3, .inl d), (4, .inl 1), (5, .inl 1), (6, .inl (i + 1))] σ2 K
              exact ih 1 (i + 1) σ2 p2 (by omega) (by omega) (by omega) (by omega) T2 (cSf_tr hF F2) (by omega) (fun L => by exact ((hq L).trans (eJ L)).trans (q2 d L))
          · refine And.intro (show 0 ≤ 1 ∧ 1 ≤ 1 from by omega) ?_
            have hj : ¬ (qisw x p (qrw 20) = true ∨ qisw x p (qrw 19) = true) := fun q => q.elim (fun q => by have := (cT_kws hT (j := 20) (by decide)).mp q; omega) (fun q => by have := (cT_kws hT (j := 19) (by decide)).mp q; omega)
            exact h1 p σ hT (cSf_tr hF cSf_refl) (by omega) (fun L => by exact hq L) hj
      · refine And.intro (fun (c11 : r3 = 20) => ?_) (fun (c12 : ¬ r3 = 20) => ?_)
        · refine And.intro (fun _ => ?_) (fun (q : ¬ r3 = 20) => (by exfalso; omega))
          have hj : qisw x p (qrw 20) = true ∨ qisw x p (qrw 19) = true := by
            by_cases e : r3 = 20
            · exact Or.inl ((cT_kws hT (by decide)).mpr (by omega))
            · exact Or.inr ((cT_kws hT (by decide)).mpr (by omega))
          have eJ : ∀ L : List Int, qN x S true d d L (σ 102 4) p = qN x S false d d L (σ 102 4) (qnx x.1 x.2.1 p) := fun L => qN_jn hT hn hj
          have hkj : qkd x.1 x.2.1 x.2.2 p = 1 := hj.elim qisw_k qisw_k
          have hk1 : ¬ qkd x.1 x.2.1 x.2.2 p = 0 ∧ ¬ qkd x.1 x.2.1 x.2.2 p = 4 := by first | exact (cT_nks hT).1 (by omega) | omega
          refine And.intro (cT_nx ⟨hT, hk1⟩) (fun s1 (σ1 : vS) ha1 f1 t1_ => ?_)
          have T1 : cT x (qnx x.1 x.2.1 p) σ1 := cT_next hT hk1 ha1 f1 t1_
          have F1 : cSf σ σ1 := cSf_cg cSf_refl (cg_of f1)
          clear ha1
          have N1 : σ1 102 4 = σ 102 4 := congrFun ((cg_of f1).1 102 (by decide)) 4
          refine ⟨show d = 5 from by omega, x, (qnx x.1 x.2.1 p), S, ⟨T1, cSn_f hS F1, hn⟩, fun k2 p2 o2 (σ2 : vS) hk2 (q2 : (∀ (b : Int) (L : List Int), qN x S false d b L (σ1 102 4) (qnx x.1 x.2.1 p) = (k2, p2, o2))) fl2 g2 => ?_, fun p2 (σ2 : vS) (T2 : cT x p2 σ2) g2 m2 (q2 : (∀ (b : Int) (L : List Int), qN x S false d b L (σ1 102 4) (qnx x.1 x.2.1 p) = qN x S true b b L (σ2 102 4) p2)) => ?_⟩
          · rw [N1] at q2
            have F2 : cSf σ σ2 := cSf_tr F1 g2
            refine And.intro (fun (q : ¬ r3 = 20) => (by exfalso; omega)) (fun _ => ?_)
            refine And.intro (show ((0 : Int) ≤ 20 ∧ 20 ≤ 29) ∧ 0 ≤ 0 ∧ 0 ≤ 6299 from by omega) (fun (σ3 : vS) g3 n3 => ?_)
            have F3 : cSf σ σ3 := cSf_sg F2 g3
            have y3 : σ3 7 4 = σ2 7 4 := congrFun (g3 7 (by decide)) 4
            refine And.intro (show -2147483648 ≤ (i + 1) ∧ (i + 1) ≤ 2147483647 from by omega) ?_
            show zGC E md72 w gr_52_5.1 15 [(0, .inr (.inl 102)), (1, .inr (.inl 7)), (2, .inr (.inl 93)), (3, .inl d), (4, .inl 0), (5, .inl bo), (6, .inl (i + 1))] σ3 K
            exact vt_52z_5 X B i55 (h0 k2 p2 o2 σ3 hk2 (fun L => ((hq L).trans (eJ L)).trans (q2 d L)) (cFl_sg fl2 g3) (cSf_tr hF F3))
          · rw [N1] at q2 m2
            have F2 : cSf σ σ2 := cSf_tr F1 g2
            refine And.intro (fun (q : ¬ r3 = 20) => (by exfalso; omega)) (fun _ => ?_)
            refine And.intro (show ((0 : Int) ≤ 20 ∧ 20 ≤ 29) ∧ 0 ≤ 0 ∧ 0 ≤ 6299 from by omega) (fun (σ3 : vS) g3 n3 => ?_)
            have T3 : cT x p2 σ3 := cT_sg T2 g3
            have F3 : cSf σ σ3 := cSf_sg F2 g3
            have N3 : σ3 102 4 = σ2 102 4 := n3
            have y3 : σ3 7 4 = σ2 7 4 := congrFun (g3 7 (by decide)) 4
            refine And.intro (show -2147483648 ≤ (i + 1) ∧ (i + 1) ≤ 2147483647 from by omega) ?_
            show zGC E md72 w gr_52_5.1 15 [(0, .inr (.inl 102)), (1, .inr (.inl 7)), (2, .inr (.inl 93)), (3, .inl d), (4, .inl 1), (5, .inl bo), (6, .inl (i + 1))] σ3 K
            exact ih bo (i + 1) σ3 p2 (by omega) (by omega) (by omega) (by omega) T3 (cSf_tr hF F3) (by omega) (fun L => by rw [N3]; exact ((hq L).trans (eJ L)).trans (q2 d L))
        · refine And.intro (show ((0 : Int) ≤ 19 ∧ 19 ≤ 29) ∧ 0 ≤ 0 ∧ 0 ≤ 6299 from by omega) (fun (σ1 : vS) g1 n1 => ?_)
          have T1 : cT x p σ1 := cT_sg hT g1
          have F1 : cSf σ σ1 := cSf_sg cSf_refl g1
          have N1 : σ1 102 4 = σ 102 4 := n1
          have y1 : σ1 7 4 = σ 7 4 := congrFun (g1 7 (by decide)) 4
          refine And.intro (fun (c13 : r3 = 20) => ?_) (fun (c14 : ¬ r3 = 20) => ?_)
          · have hj : qisw x p (qrw 20) = true ∨ qisw x p (qrw 19) = true := by
              by_cases e : r3 = 20
              · exact Or.inl ((cT_kws hT (by decide)).mpr (by omega))
              · exact Or.inr ((cT_kws hT (by decide)).mpr (by omega))
            have eJ : ∀ L : List Int, qN x S true d d L (σ 102 4) p = qN x S false d d L (σ 102 4) (qnx x.1 x.2.1 p) := fun L => qN_jn hT hn hj
            have hkj : qkd x.1 x.2.1 x.2.2 p = 1 := hj.elim qisw_k qisw_k
            have hk2 : ¬ qkd x.1 x.2.1 x.2.2 p = 0 ∧ ¬ qkd x.1 x.2.1 x.2.2 p = 4 := by first | exact (cT_nks T1).1 (by omega) | omega
            refine And.intro (cT_nx ⟨T1, hk2⟩) (fun s2 (σ2 : vS) ha2 f2 t2_ => ?_)
            have T2 : cT x (qnx x.1 x.2.1 p) σ2 := cT_next T1 hk2 ha2 f2 t2_
            have F2 : cSf σ σ2 := cSf_cg F1 (cg_of f2)
            clear ha2
            have N2 : σ2 102 4 = σ 102 4 := (congrFun ((cg_of f2).1 102 (by decide)) 4).trans N1
            refine ⟨show d = 5 from by omega, x, (qnx x.1 x.2.1 p), S, ⟨T2, cSn_f hS F2, hn⟩, fun k3 p3 o3 (σ3 : vS) hk3 (q3 : (∀ (b : Int) (L : List Int), qN x S false d b L (σ2 102 4) (qnx x.1 x.2.1 p) = (k3, p3, o3))) fl3 g3 => ?_, fun p3 (σ3 : vS) (T3 : cT x p3 σ3) g3 m3 (q3 : (∀ (b : Int) (L : List Int), qN x S false d b L (σ2 102 4) (qnx x.1 x.2.1 p) = qN x S true b b L (σ3 102 4) p3)) => ?_⟩
            · rw [N2] at q3
              have F3 : cSf σ σ3 := cSf_tr F2 g3
              refine And.intro (fun (q : ¬ r3 = 20) => (by exfalso; omega)) (fun _ => ?_)
              refine And.intro (show ((0 : Int) ≤ 20 ∧ 20 ≤ 29) ∧ 0 ≤ 0 ∧ 0 ≤ 6299 from by omega) (fun (σ4 : vS) g4 n4 => ?_)
              have F4 : cSf σ σ4 := cSf_sg F3 g4
              have y4 : σ4 7 4 = σ3 7 4 := congrFun (g4 7 (by decide)) 4
              refine And.intro (show -2147483648 ≤ (i + 1) ∧ (i + 1) ≤ 2147483647 from by omega) ?_
              show zGC E md72 w gr_52_5.1 15 [(0, .inr (.inl 102)), (1, .inr (.inl 7)), (2, .inr (.inl 93)), (3, .inl d), (4, .inl 0), (5, .inl 0), (6, .inl (i + 1))] σ4 K
              exact vt_52z_5 X B i55 (h0 k3 p3 o3 σ4 hk3 (fun L => ((hq L).trans (eJ L)).trans (q3 d L)) (cFl_sg fl3 g4) (cSf_tr hF F4))
            · rw [N2] at q3 m3
              have F3 : cSf σ σ3 := cSf_tr F2 g3
              refine And.intro (fun (q : ¬ r3 = 20) => (by exfalso; omega)) (fun _ => ?_)
              refine And.intro (show ((0 : Int) ≤ 20 ∧ 20 ≤ 29) ∧ 0 ≤ 0 ∧ 0 ≤ 6299 from by omega) (fun (σ4 : vS) g4 n4 => ?_)
              have T4 : cT x p3 σ4 := cT_sg T3 g4
              have F4 : cSf σ σ4 := cSf_sg F3 g4
              have N4 : σ4 102 4 = σ3 102 4 := n4
              have y4 : σ4 7 4 = σ3 7 4 := congrFun (g4 7 (by decide)) 4
              refine And.intro (show -2147483648 ≤ (i + 1) ∧ (i + 1) ≤ 2147483647 from by omega) ?_
              show zGC E md72 w gr_52_5.1 15 [(0, .inr (.inl 102)), (1, .inr (.inl 7)), (2, .inr (.inl 93)), (3, .inl d), (4, .inl 1), (5, .inl 0), (6, .inl (i + 1))] σ4 K
              exact ih 0 (i + 1) σ4 p3 (by omega) (by omega) (by omega) (by omega) T4 (cSf_tr hF F4) (by omega) (fun L => by rw [N4]; exact ((hq L).trans (eJ L)).trans (q3 d L))
          · refine And.intro (fun (c15 : r3 = 19) => ?_) (fun (c16 : ¬ r3 = 19) => ?_)
            · have hj : qisw x p (qrw 20) = true ∨ qisw x p (qrw 19) = true := by
                by_cases e : r3 = 20
                · exact Or.inl ((cT_kws hT (by decide)).mpr (by omega))
                · exact Or.inr ((cT_kws hT (by decide)).mpr (by omega))
              have eJ : ∀ L : List Int, qN x S true d d L (σ 102 4) p = qN x S false d d L (σ 102 4) (qnx x.1 x.2.1 p) := fun L => qN_jn hT hn hj
              have hkj : qkd x.1 x.2.1 x.2.2 p = 1 := hj.elim qisw_k qisw_k
              have hk2 : ¬ qkd x.1 x.2.1 x.2.2 p = 0 ∧ ¬ qkd x.1 x.2.1 x.2.2 p = 4 := by first | exact (cT_nks T1).1 (by omega) | omega
              refine And.intro (cT_nx ⟨T1, hk2⟩) (fun s2 (σ2 : vS) ha2 f2 t2_ => ?_)
              have T2 : cT x (qnx x.1 x.2.1 p) σ2 := cT_next T1 hk2 ha2 f2 t2_
              have F2 : cSf σ σ2 := cSf_cg F1 (cg_of f2)
              clear ha2
              have N2 : σ2 102 4 = σ 102 4 := (congrFun ((cg_of f2).1 102 (by decide)) 4).trans N1
              refine ⟨show d = 5 from by omega, x, (qnx x.1 x.2.1 p), S, ⟨T2, cSn_f hS F2, hn⟩, fun k3 p3 o3 (σ3 : vS) hk3 (q3 : (∀ (b : Int) (L : List Int), qN x S false d b L (σ2 102 4) (qnx x.1 x.2.1 p) = (k3, p3, o3))) fl3 g3 => ?_, fun p3 (σ3 : vS) (T3 : cT x p3 σ3) g3 m3 (q3 : (∀ (b : Int) (L : List Int), qN x S false d b L (σ2 102 4) (qnx x.1 x.2.1 p) = qN x S true b b L (σ3 102 4) p3)) => ?_⟩
              · rw [N2] at q3
                have F3 : cSf σ σ3 := cSf_tr F2 g3
                refine And.intro (fun _ => ?_) (fun (q : r3 = 20) => (by exfalso; omega))
                refine And.intro (show -2147483648 ≤ (i + 1) ∧ (i + 1) ≤ 2147483647 from by omega) ?_
                show zGC E md72 w gr_52_5.1 15 [(0, .inr (.inl 102)), (1, .inr (.inl 7)), (2, .inr (.inl 93)), (3, .inl d), (4, .inl 0), (5, .inl 1), (6, .inl (i + 1))] σ3 K
                exact vt_52z_5 X B i55 (h0 k3 p3 o3 σ3 hk3 (fun L => ((hq L).trans (eJ L)).trans (q3 d L)) fl3 (cSf_tr hF F3))
              · rw [N2] at q3 m3
                have F3 : cSf σ σ3 := cSf_tr F2 g3
                refine And.intro (fun _ => ?_) (fun (q : r3 = 20) => (by exfalso; omega))
                refine And.intro (show -2147483648 ≤ (i + 1) ∧ (i + 1) ≤ 2147483647 from by omega) ?_
                show zGC E md72 w gr_52_5.1 15 [(0, .inr (.inl 102)), (1, .inr (.inl 7)), (2, .inr (.inl 93)), (3, .inl d), (4, .inl 1), (5, .inl 1), (6, .inl (i + 1))] σ3 K
                exact ih 1 (i + 1) σ3 p3 (by omega) (by omega) (by omega) (by omega) T3 (cSf_tr hF F3) (by omega) (fun L => by exact ((hq L).trans (eJ L)).trans (q3 d L))
            · refine And.intro (show 0 ≤ 1 ∧ 1 ≤ 1 from by omega) ?_
              have hj : ¬ (qisw x p (qrw 20) = true ∨ qisw x p (qrw 19) = true) := fun q => q.elim (fun q => by have := (cT_kws hT (j := 20) (by decide)).mp q; omega) (fun q => by have := (cT_kws hT (j := 19) (by decide)).mp q; omega)
              exact h1 p σ1 T1 (cSf_tr hF F1) (by omega) (fun L => by rw [N1]; exact hq L) hj
set_option maxRecDepth 16384 in
theorem vt_52_5 (X : zX gKX E) (B : zB E) (i55 : zOKR E md72 w gr_55_5 (vt55 5)) : zOKR E md72 w gr_52_5 (vt52 5) := by
  intro vs σ K h
  unfold vt52 at h
  split at h
  · rename_i d
    obtain ⟨hd, x, p, S, ⟨hT, hS, hn⟩, h0, h1⟩ := h
    show zGC E md72 w gr_52_5.1 0 [(0, .inr (.inl 102)), (1, .inr (.inl 7)), (2, .inr (.inl 93)), (3, .inl d)] σ K
    refine zbdC (fun hb0 => ?_)
    have b4 : 0 ≤ σ 102 4 ∧ σ 102 4 ≤ 20 := zfC hb0 (t := 102) (f := 4) (by decide +kernel)
    refine zbdC (fun hb => zgoR (⟨rfl, rfl, rfl⟩ : zalt gr_52_5 (gm_52, 8)) (⟨rfl, rfl, rfl⟩ : zalt gr_55_5 (gm_55, 7)) X B zOKR_no i55 (vLA_ok X B) (by decide) [] [(15, [0, 1, 2, 3, 4, 5, 6])] (fun m => Nat.beq m.2.2.2.2.2.2.length 59) (by decide +kernel) ?_)
    refine ⟨show d = 5 from by omega, x, p, S, ⟨hT, cSn_f hS cSf_refl, hn⟩, fun k1 p1 o1 (σ1 : vS) hk1 (q1 : (∀ (b : Int) (L : List Int), qN x S false d b L (σ 102 4) p = (k1, p1, o1))) fl1 g1 => ?_, fun p1 (σ1 : vS) (T1 : cT x p1 σ1) g1 m1 (q1 : (∀ (b : Int) (L : List Int), qN x S false d b L (σ 102 4) p = qN x S true b b L (σ1 102 4) p1)) => ?_⟩
    · have F1 : cSf σ σ1 := cSf_tr cSf_refl g1
      show zGC E md72 w gr_52_5.1 15 [(0, .inr (.inl 102)), (1, .inr (.inl 7)), (2, .inr (.inl 93)), (3, .inl d), (4, .inl 0), (5, .inl 0), (6, .inl 0)] σ1 K
      exact vt_52z_5 X B i55 (h0 k1 p1 o1 σ1 hk1 (fun L => q1 d L) fl1 F1)
    · have F1 : cSf σ σ1 := cSf_tr cSf_refl g1
      show zGC E md72 w gr_52_5.1 15 [(0, .inr (.inl 102)), (1, .inr (.inl 7)), (2, .inr (.inl 93)), (3, .inl d), (4, .inl 1), (5, .inl 0), (6, .inl 0)] σ1 K
      exact vt_52l_5 X B i55 hd hS hn h0 h1 22 0 0 σ1 p1 (by omega) (by omega) (by omega) (by omega) T1 F1 (by omega) (fun L => q1 d L)
  · exact absurd h id
set_option maxRecDepth 16384 in
theorem vt_55_4 (X : zX gKX E) (B : zB E) (i55 : zOKR E md72 w gr_55_5 (vt55 5)) (i52 : zOKR E md72 w gr_52_5 (vt52 5)) : zOKR E md72 w gr_55_4 (vt55 4) := by
  intro vs σ K h
  unfold vt55 at h
  split at h
  · rename_i d
    obtain ⟨hd, x, p, S, ⟨hT, hS, hn⟩, h0, h1⟩ := h
    show zGC E md72 w gr_55_4.1 0 [(0, .inr (.inl 102)), (1, .inr (.inl 7)), (2, .inr (.inl 93)), (3, .inl d)] σ K
    refine zbdC (fun hb => zgoR (⟨rfl, rfl, rfl⟩ : zalt gr_52_5 (gm_52, 8)) (⟨rfl, rfl, rfl⟩ : zalt gr_55_5 (gm_55, 7)) X B i52 i55 (vLA_ok X B) (by decide) [] [] (fun m => false) (by decide +kernel) ?_)
    refine fun z (t1 : (z = 1 ∧ σ 7 4 = 5 ∧ σ 7 6 = 40) ∨ (z = 0 ∧ ¬ (σ 7 4 = 5 ∧ σ 7 6 = 40))) => ?_
    rcases t1 with ⟨rfl, t1⟩ | ⟨rfl, t1⟩
    · refine fun (r2 : Int) (t3 : (σ 7 4 = 2 ∧ r2 = σ 7 6) ∨ (¬ σ 7 4 = 2 ∧ r2 = -1)) => ?_
      refine And.intro (fun _ => ?_) (fun (q : 1 = 0) => absurd q (by decide))
      have f4 : 0 ≤ σ 102 4 ∧ σ 102 4 ≤ 20 := zfC hb (t := 102) (f := 4) (by decide +kernel)
      refine And.intro (fun (c5 : 20 ≤ (σ 102 4)) => ?_) (fun (c6 : (σ 102 4) < 20) => ?_)
      · refine And.intro (cT_fl hT (by omega)) ?_
        refine And.intro (show 0 ≤ 0 ∧ 0 ≤ 1 from by omega) ?_
        have hB : ¬ qbeg x p = -1 := by have := (cT_bg hT).1 t1; omega
        exact h0 4 p (σ 102 4) _ (by decide) (fun b L => qN_of (qop_4 hB (by omega)) (by decide)) (cFl_of hT) (cSf_cg cSf_refl cg_fl)
      · refine And.intro (fun (c7 : d ≤ 8) => ?_) (fun (c8 : 8 < d) => ?_)
        · refine And.intro (show -2147483648 ≤ ((σ 102 4) + 1) ∧ ((σ 102 4) + 1) ≤ 2147483647 from by omega) ?_
          refine And.intro (show 0 ≤ ((σ 102 4) + 1) ∧ ((σ 102 4) + 1) ≤ 20 from by omega) ?_
          have hlim : ¬ (σ 102 4 = 20 ∨ 8 < d) := by omega
          have hB : qbeg x p = 9 := (cT_bg hT).1 t1
          have hon : σ 102 4 + 1 ≤ 20 := by omega
          have hk1 : ¬ qkd x.1 x.2.1 x.2.2 p = 0 ∧ ¬ qkd x.1 x.2.1 x.2.2 p = 4 := by first | exact (cT_nks hT).1 (by omega) | omega
          refine And.intro (cT_nx ⟨(cT_t hT (by decide)), hk1⟩) (fun s1 (σ1 : vS) ha1 f1 t1_ => ?_)
          have T1 : cT x (qnx x.1 x.2.1 p) σ1 := cT_next (cT_t hT (by decide)) hk1 ha1 f1 t1_
          have F1 : cSf σ σ1 := cSf_cg (cSf_up (by decide) cSf_refl) (cg_of f1)
          clear ha1
          clear t3
          have N1 : σ1 102 4 = (σ 102 4) + 1 := (congrFun ((cg_of f1).1 102 (by decide)) 4).trans vup_eq
          refine And.intro (fun (q : 1 = 0) => absurd q (by decide)) (fun _ => ?_)
          refine And.intro (show -2147483648 ≤ (d + 1) ∧ (d + 1) ≤ 2147483647 from by omega) ?_
          have eA : ∀ (b : Int) (L : List Int), qN x S false d b L (σ 102 4) p = qN x S false (d + 1) (d + 1) (b :: L) (σ 102 4 + 1) (qnx x.1 x.2.1 p) := fun b L => qN_og hT hn (qop_9 hB hlim)
          refine ⟨show d + 1 = 5 from by omega, x, (qnx x.1 x.2.1 p), S, ⟨T1, cSn_f hS F1, hn⟩, fun k2 p2 o2 (σ2 : vS) hk2 (q2 : (∀ L : List Int, qN x S false (d + 1) (d + 1) L (σ1 102 4) (qnx x.1 x.2.1 p) = (k2, p2, o2))) fl2 g2 => ?_, fun p2 (σ2 : vS) (T2 : cT x p2 σ2) g2 m2 (q2 : (∀ L : List Int, qN x S false (d + 1) (d + 1) L (σ1 102 4) (qnx x.1 x.2.1 p) = qN x S true (d + 1) (d + 1) L (σ2 102 4) p2)) hj2 => ?_⟩
          · rw [N1] at q2
            have F2 : cSf σ σ2 := cSf_tr F1 g2
            refine And.intro (fun _ => ?_) (fun (q : ¬ 0 = 0) => absurd q (by decide))
            refine And.intro (show 0 ≤ 0 ∧ 0 ≤ 1 from by omega) ?_
            exact h0 k2 p2 o2 σ2 hk2 (fun b L => (eA b L).trans (q2 (b :: L))) fl2 F2
          · rw [N1] at q2 m2
            have F2 : cSf σ σ2 := cSf_tr F1 g2
            refine And.intro (fun (q : 1 = 0) => absurd q (by decide)) (fun _ => ?_)
            refine ⟨x, p2, T2, fun e3 (σ3 : vS) fl3 g3 => ?_, fun e3 (σ3 : vS) T3 g3 => ?_⟩
            · have F3 : cSf σ σ3 := cSf_cg F2 g3
              refine And.intro (fun _ => ?_) (fun (q : ¬ 0 = 0) => absurd q (by decide))
              refine And.intro (show 0 ≤ 0 ∧ 0 ≤ 1 from by omega) ?_
              exact h0 1 p2 (σ2 102 4) σ3 (by decide) (fun b L => ((eA b L).trans (q2 (b :: L))).trans (qN_nc hj2 e3)) fl3 F3
            · have F3 : cSf σ σ3 := cSf_cg F2 g3
              have N3 : σ3 102 4 = σ2 102 4 := congrFun (g3.1 102 (by decide)) 4
              refine And.intro (fun (q : 1 = 0) => absurd q (by decide)) (fun _ => ?_)
              refine And.intro (show 0 ≤ 1 ∧ 1 ≤ 1 from by omega) ?_
              exact h1 (qnx x.1 x.2.1 p2) σ3 T3 F3 (by omega) (fun b L => by rw [N3]; exact ((eA b L).trans (q2 (b :: L))).trans (qN_cl T2 hn hj2 e3))
        · refine And.intro (cT_fl hT (by omega)) ?_
          refine And.intro (show 0 ≤ 0 ∧ 0 ≤ 1 from by omega) ?_
          have hB : ¬ qbeg x p = -1 := by have := (cT_bg hT).1 t1; omega
          exact h0 4 p (σ 102 4) _ (by decide) (fun b L => qN_of (qop_4 hB (by omega)) (by decide)) (cFl_of hT) (cSf_cg cSf_refl cg_fl)
    · refine fun (r9 : Int) (t10 : (σ 7 4 = 2 ∧ r9 = σ 7 6) ∨ (¬ σ 7 4 = 2 ∧ r9 = -1)) => ?_
      refine And.intro (fun (q : ¬ 0 = 0) => absurd q (by decide)) (fun _ => ?_)
      refine And.intro (fun (c11 : r9 < 21) => ?_) (fun (c12 : 21 ≤ r9) => ?_)
      · refine And.intro (cT_fl hT (by omega)) ?_
        refine And.intro (show 0 ≤ 0 ∧ 0 ≤ 1 from by omega) ?_
        have hB : qbeg x p = -1 := (cT_bg hT).2.2.2 t1 (by omega)
        exact h0 1 p (σ 102 4) _ (by decide) (fun b L => qN_of (qop_1 hB) (by decide)) (cFl_of hT) (cSf_cg cSf_refl cg_fl)
      · refine And.intro (fun (c13 : r9 ≤ 29) => ?_) (fun (c14 : 29 < r9) => ?_)
        · have f15 : 0 ≤ σ 102 4 ∧ σ 102 4 ≤ 20 := zfC hb (t := 102) (f := 4) (by decide +kernel)
          refine And.intro (fun (c16 : 20 ≤ (σ 102 4)) => ?_) (fun (c17 : (σ 102 4) < 20) => ?_)
          · refine And.intro (cT_fl hT (by omega)) ?_
            refine And.intro (show 0 ≤ 0 ∧ 0 ≤ 1 from by omega) ?_
            have hB : ¬ qbeg x p = -1 := by
              by_cases e : σ 7 6 = 21
              · have := (cT_bg hT).2.1 (by omega); omega
              · have := (cT_bg hT).2.2.1 (by omega); omega
            exact h0 4 p (σ 102 4) _ (by decide) (fun b L => qN_of (qop_4 hB (by omega)) (by decide)) (cFl_of hT) (cSf_cg cSf_refl cg_fl)
          · refine And.intro (fun (c18 : d ≤ 8) => ?_) (fun (c19 : 8 < d) => ?_)
            · refine And.intro (show -2147483648 ≤ ((σ 102 4) + 1) ∧ ((σ 102 4) + 1) ≤ 2147483647 from by omega) ?_
              refine And.intro (show 0 ≤ ((σ 102 4) + 1) ∧ ((σ 102 4) + 1) ≤ 20 from by omega) ?_
              have hlim : ¬ (σ 102 4 = 20 ∨ 8 < d) := by omega
              have hon : σ 102 4 + 1 ≤ 20 := by omega
              have hr : σ 7 4 = 2 ∧ r9 = σ 7 6 := by omega
              have hk1 : ¬ qkd x.1 x.2.1 x.2.2 p = 0 ∧ ¬ qkd x.1 x.2.1 x.2.2 p = 4 := by first | exact (cT_nks hT).1 (by omega) | omega
              refine And.intro (cT_nx ⟨(cT_t hT (by decide)), hk1⟩) (fun s1 (σ1 : vS) ha1 f1 t1_ => ?_)
              have T1 : cT x (qnx x.1 x.2.1 p) σ1 := cT_next (cT_t hT (by decide)) hk1 ha1 f1 t1_
              have F1 : cSf σ σ1 := cSf_cg (cSf_up (by decide) cSf_refl) (cg_of f1)
              clear ha1
              clear t10 t1
              have N1 : σ1 102 4 = (σ 102 4) + 1 := (congrFun ((cg_of f1).1 102 (by decide)) 4).trans vup_eq
              refine And.intro (fun _ => ?_) (fun (q : ¬ 0 = 0) => absurd q (by decide))
              refine And.intro (And.intro (fun (c20 : r9 = 21) => ?_) (And.intro (fun (c21 : r9 = 22) => ?_) (And.intro (fun (c22 : r9 = 23) => ?_) (And.intro (fun (c23 : r9 = 24) => ?_) (And.intro (fun (c24 : r9 = 25) => ?_) (trivial)))))) (fun (c25 : r9 < 21 ∨ 25 < r9) => ?_)
              · refine And.intro (show -2147483648 ≤ (d + 1) ∧ (d + 1) ≤ 2147483647 from by omega) ?_
                have hB : qbeg x p = 8 := (cT_bg hT).2.1 (by omega)
                have eA : ∀ (b : Int) (L : List Int), qN x S false d b L (σ 102 4) p = qN x S false (d + 1) b L (σ 102 4 + 1) (qnx x.1 x.2.1 p) := fun b L => qN_og hT hn (qop_8 hB hlim)
                refine ⟨show d + 1 = 5 from by omega, x, (qnx x.1 x.2.1 p), S, ⟨T1, cSn_f hS F1, hn⟩, fun k2 p2 o2 (σ2 : vS) hk2 (q2 : (∀ (b : Int) (L : List Int), qN x S false (d + 1) b L (σ1 102 4) (qnx x.1 x.2.1 p) = (k2, p2, o2))) fl2 g2 => ?_, fun p2 (σ2 : vS) (T2 : cT x p2 σ2) g2 m2 (q2 : (∀ (b : Int) (L : List Int), qN x S false (d + 1) b L (σ1 102 4) (qnx x.1 x.2.1 p) = qN x S true b b L (σ2 102 4) p2)) => ?_⟩
                · rw [N1] at q2
                  have F2 : cSf σ σ2 := cSf_tr F1 g2
                  refine And.intro (show ((0 : Int) ≤ 21 ∧ 21 ≤ 29) ∧ 0 ≤ 0 ∧ 0 ≤ 6299 from by omega) (fun (σ3 : vS) g3 n3 => ?_)
                  have F3 : cSf σ σ3 := cSf_sg F2 g3
                  have y3 : σ3 7 4 = σ2 7 4 := congrFun (g3 7 (by decide)) 4
                  refine And.intro (show 0 ≤ 0 ∧ 0 ≤ 1 from by omega) ?_
                  exact h0 k2 p2 o2 σ3 hk2 (fun b L => (eA b L).trans (q2 b L)) (cFl_sg fl2 g3) F3
                · rw [N1] at q2 m2
                  have F2 : cSf σ σ2 := cSf_tr F1 g2
                  refine And.intro (show ((0 : Int) ≤ 21 ∧ 21 ≤ 29) ∧ 0 ≤ 0 ∧ 0 ≤ 6299 from by omega) (fun (σ3 : vS) g3 n3 => ?_)
                  have T3 : cT x p2 σ3 := cT_sg T2 g3
                  have F3 : cSf σ σ3 := cSf_sg F2 g3
                  have N3 : σ3 102 4 = σ2 102 4 := n3
                  have y3 : σ3 7 4 = σ2 7 4 := congrFun (g3 7 (by decide)) 4
                  refine And.intro (show 0 ≤ 1 ∧ 1 ≤ 1 from by omega) ?_
                  exact h1 p2 σ3 T3 F3 (by omega) (fun b L => by rw [N3]; exact (eA b L).trans (q2 b L))
              · refine And.intro (show ((0 : Int) ≤ r9 ∧ r9 ≤ 29) ∧ 0 ≤ 0 ∧ 0 ≤ 6299 from by omega) (fun (σ2 : vS) g2 n2 => ?_)
                have T2 : cT x (qnx x.1 x.2.1 p) σ2 := cT_sg T1 g2
                have F2 : cSf σ σ2 := cSf_sg F1 g2
                have N2 : σ2 102 4 = (σ 102 4) + 1 := n2.trans N1
                have y2 : σ2 7 4 = σ1 7 4 := congrFun (g2 7 (by decide)) 4
                refine And.intro (show 0 ≤ 1 ∧ 1 ≤ 1 from by omega) ?_
                have hB := (cT_bg hT).2.2.1 (by omega)
                exact h1 (qnx x.1 x.2.1 p) σ2 T2 F2 ⟨by rw [N2]; exact Int.le_refl _, by rw [N2]; exact hon⟩ (fun b L => by rw [N2]; exact (qN_og hT hn (qop_l (by omega) hlim)).trans qN_d)
              · refine And.intro (show ((0 : Int) ≤ r9 ∧ r9 ≤ 29) ∧ 0 ≤ 0 ∧ 0 ≤ 6299 from by omega) (fun (σ2 : vS) g2 n2 => ?_)
                have T2 : cT x (qnx x.1 x.2.1 p) σ2 := cT_sg T1 g2
                have F2 : cSf σ σ2 := cSf_sg F1 g2
                have N2 : σ2 102 4 = (σ 102 4) + 1 := n2.trans N1
                have y2 : σ2 7 4 = σ1 7 4 := congrFun (g2 7 (by decide)) 4
                refine And.intro (show 0 ≤ 1 ∧ 1 ≤ 1 from by omega) ?_
                have hB := (cT_bg hT).2.2.1 (by omega)
                exact h1 (qnx x.1 x.2.1 p) σ2 T2 F2 ⟨by rw [N2]; exact Int.le_refl _, by rw [N2]; exact hon⟩ (fun b L => by rw [N2]; exact (qN_og hT hn (qop_l (by omega) hlim)).trans qN_d)
              · have hB : qbeg x p = 2 := by have := (cT_bg hT).2.2.1 (by omega); omega
                obtain ⟨r1, r2, r3⟩ := qof_b (x := x) (S := S) (p := (qnx x.1 x.2.1 p)) hS.2 (k := 2) (by omega)
                have eM : ∀ (b : Int) (L : List Int), qop x S.2.2 (S.2.1 0) (S.2.1 1) d b L (σ 102 4) p = if (qofn x S.2.2 (S.2.1 0) (S.2.1 1) 2 (qnx x.1 x.2.1 p)) < 0 then (-(qofn x S.2.2 (S.2.1 0) (S.2.1 1) 2 (qnx x.1 x.2.1 p)), ((qnx x.1 x.2.1 p), true, d, b, L, σ 102 4 + 1)) else (0, (qnx x.1 x.2.1 (qnx x.1 x.2.1 p), true, d, b, L, σ 102 4 + 1)) := fun b L => by
                  have e := qop_m (x := x) (nm := S.2.2) (mh := S.2.1 0) (mo := S.2.1 1) (d := d) (b := b) (L := L) (o := σ 102 4) (p := p) (by omega) hlim
                  rw [hB] at e
                  exact e
                refine ⟨by omega, x, ((qnx x.1 x.2.1 p), S.2), S.2.1 1, T1, (cSn_f hS F1).1, hS.2, fun q => absurd q (by decide), fun _ => ⟨rfl, fun c2 (σ2 : vS) fl2 g2 => ?_, fun c2 => ?_⟩, fun q => absurd q (by decide)⟩
                · clear r3
                  have c2 : (qofn x S.2.2 (S.2.1 0) (S.2.1 1) 2 (qnx x.1 x.2.1 p)) < 0 := c2
                  have fl2 : cFl x (-(qofn x S.2.2 (S.2.1 0) (S.2.1 1) 2 (qnx x.1 x.2.1 p))) (qnx x.1 x.2.1 p) σ2 := fl2
                  have F2 : cSf σ σ2 := cSf_cg F1 g2
                  refine And.intro (fun (q : ¬ (-1) = (-1)) => absurd q (by decide)) (fun _ => ?_)
                  refine And.intro (show 0 ≤ 0 ∧ 0 ≤ 1 from by omega) ?_
                  refine And.intro (show 0 ≤ 0 ∧ 0 ≤ 1 from by omega) ?_
                  exact h0 (-(qofn x S.2.2 (S.2.1 0) (S.2.1 1) 2 (qnx x.1 x.2.1 p))) (qnx x.1 x.2.1 p) (σ 102 4 + 1) σ2 (by omega) (fun b L => qN_of ((eM b L).trans (if_pos c2)) (by omega)) fl2 F2
                · have c2 : 0 ≤ (qofn x S.2.2 (S.2.1 0) (S.2.1 1) 2 (qnx x.1 x.2.1 p)) := c2
                  have kq2 := r3 c2
                  clear r3
                  have eR26 : qlk x 6 (S.2.1 1) ((qnx x.1 x.2.1 p), S.2) = (qofn x S.2.2 (S.2.1 0) (S.2.1 1) 2 (qnx x.1 x.2.1 p)) := rfl
                  rw [eR26]
                  refine And.intro (fun (c27 : ¬ ((qofn x S.2.2 (S.2.1 0) (S.2.1 1) 2 (qnx x.1 x.2.1 p))) = (-1)) => ?_) (fun (c28 : ((qofn x S.2.2 (S.2.1 0) (S.2.1 1) 2 (qnx x.1 x.2.1 p))) = (-1)) => ?_)
                  · refine And.intro (show ((0 : Int) ≤ r9 ∧ r9 ≤ 29) ∧ 0 ≤ ((qofn x S.2.2 (S.2.1 0) (S.2.1 1) 2 (qnx x.1 x.2.1 p))) ∧ ((qofn x S.2.2 (S.2.1 0) (S.2.1 1) 2 (qnx x.1 x.2.1 p))) ≤ 6299 from by omega) (fun (σ2 : vS) g2 n2 => ?_)
                    have T2 : cT x (qnx x.1 x.2.1 p) σ2 := cT_sg T1 g2
                    have F2 : cSf σ σ2 := cSf_sg F1 g2
                    have N2 : σ2 102 4 = (σ 102 4) + 1 := n2.trans N1
                    have y2 : σ2 7 4 = σ1 7 4 := congrFun (g2 7 (by decide)) 4
                    have hk3 : ¬ qkd x.1 x.2.1 x.2.2 (qnx x.1 x.2.1 p) = 0 ∧ ¬ qkd x.1 x.2.1 x.2.2 (qnx x.1 x.2.1 p) = 4 := by first | exact (cT_nks T2).1 (by omega) | omega
                    refine And.intro (cT_nx ⟨T2, hk3⟩) (fun s3 (σ3 : vS) ha3 f3 t3_ => ?_)
                    have T3 : cT x (qnx x.1 x.2.1 (qnx x.1 x.2.1 p)) σ3 := cT_next T2 hk3 ha3 f3 t3_
                    have F3 : cSf σ σ3 := cSf_cg F2 (cg_of f3)
                    clear ha3
                    have N3 : σ3 102 4 = (σ 102 4) + 1 := (congrFun ((cg_of f3).1 102 (by decide)) 4).trans N2
                    refine And.intro (show 0 ≤ 1 ∧ 1 ≤ 1 from by omega) ?_
                    refine And.intro (show 0 ≤ 1 ∧ 1 ≤ 1 from by omega) ?_
                    exact h1 (qnx x.1 x.2.1 (qnx x.1 x.2.1 p)) σ3 T3 F3 ⟨by rw [N3]; exact Int.le_refl _, by rw [N3]; exact hon⟩ (fun b L => by rw [N3]; exact (qN_og hT hn ((eM b L).trans (if_neg (by omega)))).trans qN_d)
                  · refine And.intro (show 0 ≤ 0 ∧ 0 ≤ 1 from by omega) ?_
                    refine And.intro (show 0 ≤ 0 ∧ 0 ≤ 1 from by omega) ?_
                    exfalso; omega
              · have hB : qbeg x p = 3 := by have := (cT_bg hT).2.2.1 (by omega); omega
                obtain ⟨r1, r2, r3⟩ := qof_b (x := x) (S := S) (p := (qnx x.1 x.2.1 p)) hS.2 (k := 3) (by omega)
                have eM : ∀ (b : Int) (L : List Int), qop x S.2.2 (S.2.1 0) (S.2.1 1) d b L (σ 102 4) p = if (qofn x S.2.2 (S.2.1 0) (S.2.1 1) 3 (qnx x.1 x.2.1 p)) < 0 then (-(qofn x S.2.2 (S.2.1 0) (S.2.1 1) 3 (qnx x.1 x.2.1 p)), ((qnx x.1 x.2.1 p), true, d, b, L, σ 102 4 + 1)) else (0, (qnx x.1 x.2.1 (qnx x.1 x.2.1 p), true, d, b, L, σ 102 4 + 1)) := fun b L => by
                  have e := qop_m (x := x) (nm := S.2.2) (mh := S.2.1 0) (mo := S.2.1 1) (d := d) (b := b) (L := L) (o := σ 102 4) (p := p) (by omega) hlim
                  rw [hB] at e
                  exact e
                refine ⟨by omega, x, ((qnx x.1 x.2.1 p), S.2), S.2.1 0, T1, (cSn_f hS F1).1, hS.2, fun _ => ⟨rfl, fun c2 (σ2 : vS) fl2 g2 => ?_, fun c2 => ?_⟩, fun q => absurd q (by decide), fun q => absurd q (by decide)⟩
                · clear r3
                  have c2 : (qofn x S.2.2 (S.2.1 0) (S.2.1 1) 3 (qnx x.1 x.2.1 p)) < 0 := c2
                  have fl2 : cFl x (-(qofn x S.2.2 (S.2.1 0) (S.2.1 1) 3 (qnx x.1 x.2.1 p))) (qnx x.1 x.2.1 p) σ2 := fl2
                  have F2 : cSf σ σ2 := cSf_cg F1 g2
                  refine And.intro (fun (q : ¬ (-1) = (-1)) => absurd q (by decide)) (fun _ => ?_)
                  refine And.intro (show 0 ≤ 0 ∧ 0 ≤ 1 from by omega) ?_
                  refine And.intro (show 0 ≤ 0 ∧ 0 ≤ 1 from by omega) ?_
                  exact h0 (-(qofn x S.2.2 (S.2.1 0) (S.2.1 1) 3 (qnx x.1 x.2.1 p))) (qnx x.1 x.2.1 p) (σ 102 4 + 1) σ2 (by omega) (fun b L => qN_of ((eM b L).trans (if_pos c2)) (by omega)) fl2 F2
                · have c2 : 0 ≤ (qofn x S.2.2 (S.2.1 0) (S.2.1 1) 3 (qnx x.1 x.2.1 p)) := c2
                  have kq2 := r3 c2
                  clear r3
                  have eR29 : qlk x 0 (S.2.1 0) ((qnx x.1 x.2.1 p), S.2) = (qofn x S.2.2 (S.2.1 0) (S.2.1 1) 3 (qnx x.1 x.2.1 p)) := rfl
                  rw [eR29]
                  refine And.intro (fun (c30 : ¬ ((qofn x S.2.2 (S.2.1 0) (S.2.1 1) 3 (qnx x.1 x.2.1 p))) = (-1)) => ?_) (fun (c31 : ((qofn x S.2.2 (S.2.1 0) (S.2.1 1) 3 (qnx x.1 x.2.1 p))) = (-1)) => ?_)
                  · refine And.intro (show ((0 : Int) ≤ r9 ∧ r9 ≤ 29) ∧ 0 ≤ ((qofn x S.2.2 (S.2.1 0) (S.2.1 1) 3 (qnx x.1 x.2.1 p))) ∧ ((qofn x S.2.2 (S.2.1 0) (S.2.1 1) 3 (qnx x.1 x.2.1 p))) ≤ 6299 from by omega) (fun (σ2 : vS) g2 n2 => ?_)
                    have T2 : cT x (qnx x.1 x.2.1 p) σ2 := cT_sg T1 g2
                    have F2 : cSf σ σ2 := cSf_sg F1 g2
                    have N2 : σ2 102 4 = (σ 102 4) + 1 := n2.trans N1
                    have y2 : σ2 7 4 = σ1 7 4 := congrFun (g2 7 (by decide)) 4
                    have hk3 : ¬ qkd x.1 x.2.1 x.2.2 (qnx x.1 x.2.1 p) = 0 ∧ ¬ qkd x.1 x.2.1 x.2.2 (qnx x.1 x.2.1 p) = 4 := by first | exact (cT_nks T2).1 (by omega) | omega
                    refine And.intro (cT_nx ⟨T2, hk3⟩) (fun s3 (σ3 : vS) ha3 f3 t3_ => ?_)
                    have T3 : cT x (qnx x.1 x.2.1 (qnx x.1 x.2.1 p)) σ3 := cT_next T2 hk3 ha3 f3 t3_
                    have F3 : cSf σ σ3 := cSf_cg F2 (cg_of f3)
                    clear ha3
                    have N3 : σ3 102 4 = (σ 102 4) + 1 := (congrFun ((cg_of f3).1 102 (by decide)) 4).trans N2
                    refine And.intro (show 0 ≤ 1 ∧ 1 ≤ 1 from by omega) ?_
                    refine And.intro (show 0 ≤ 1 ∧ 1 ≤ 1 from by omega) ?_
                    exact h1 (qnx x.1 x.2.1 (qnx x.1 x.2.1 p)) σ3 T3 F3 ⟨by rw [N3]; exact Int.le_refl _, by rw [N3]; exact hon⟩ (fun b L => by rw [N3]; exact (qN_og hT hn ((eM b L).trans (if_neg (by omega)))).trans qN_d)
                  · refine And.intro (show 0 ≤ 0 ∧ 0 ≤ 1 from by omega) ?_
                    refine And.intro (show 0 ≤ 0 ∧ 0 ≤ 1 from by omega) ?_
                    exfalso; omega
              · refine fun z (t32 : (z = 1 ∧ σ1 7 4 = 5 ∧ σ1 7 6 = 60) ∨ (z = 0 ∧ ¬ (σ1 7 4 = 5 ∧ σ1 7 6 = 60))) => ?_
                rcases t32 with ⟨rfl, t32⟩ | ⟨rfl, t32⟩
                · refine And.intro (fun _ => ?_) (fun (q : 1 = 0) => absurd q (by decide))
                  have hk2 : ¬ qkd x.1 x.2.1 x.2.2 (qnx x.1 x.2.1 p) = 0 ∧ ¬ qkd x.1 x.2.1 x.2.2 (qnx x.1 x.2.1 p) = 4 := by first | exact (cT_nks T1).1 (by omega) | omega
                  refine And.intro (cT_nx ⟨T1, hk2⟩) (fun s2 (σ2 : vS) ha2 f2 t2_ => ?_)
                  have T2 : cT x (qnx x.1 x.2.1 (qnx x.1 x.2.1 p)) σ2 := cT_next T1 hk2 ha2 f2 t2_
                  have F2 : cSf σ σ2 := cSf_cg F1 (cg_of f2)
                  clear ha2
                  have N2 : σ2 102 4 = (σ 102 4) + 1 := (congrFun ((cg_of f2).1 102 (by decide)) 4).trans N1
                  have vu33 := cT_v T2
                  refine ⟨(cT_fl T2 (by decide : (0 : Int) ≤ 1 ∧ (1 : Int) ≤ 4)).2, fun cu33 => ?_, fun cu33 du33 => ?_, fun cu33 du33 eu33 => ?_⟩
                  · refine And.intro (fun (q : ¬ (-1) = (-1)) => absurd q (by decide)) (fun _ => ?_)
                    refine And.intro (show 0 ≤ 0 ∧ 0 ≤ 1 from by omega) ?_
                    refine And.intro (show 0 ≤ 0 ∧ 0 ≤ 1 from by omega) ?_
                    have hB := (cT_bg hT).2.2.1 (by omega)
                    have e3 : qsg3 x (qnx x.1 x.2.1 p) = true := (cT_s3 T1).mpr (by omega)
                    have e4 : ¬ qkd x.1 x.2.1 x.2.2 (qnx x.1 x.2.1 (qnx x.1 x.2.1 p)) = 2 := fun q => cu33 ((cT_nks T2).2.1.mp q)
                    exact h0 1 (qnx x.1 x.2.1 (qnx x.1 x.2.1 p)) (σ 102 4 + 1) _ (by decide) (fun b L => qN_of ((qop_s (by omega) hlim).trans ((if_pos e3).trans (if_neg e4))) (by decide)) (cFl_of T2) (cSf_cg F2 cg_fl)
                  · exfalso; have := vu33 cu33; omega
                  · have wu33 := vu33 cu33
                    clear vu33 du33 eu33
                    refine And.intro (fun (c34 : ¬ (σ2 7 6) = (-1)) => ?_) (fun (c35 : (σ2 7 6) = (-1)) => ?_)
                    · refine And.intro (show -2147483648 ≤ ((σ1 7 6) * 100) ∧ ((σ1 7 6) * 100) ≤ 2147483647 from by omega) ?_
                      refine And.intro (show -2147483648 ≤ (((σ1 7 6) * 100) + (σ2 7 6)) ∧ (((σ1 7 6) * 100) + (σ2 7 6)) ≤ 2147483647 from by omega) ?_
                      refine And.intro (show ((0 : Int) ≤ r9 ∧ r9 ≤ 29) ∧ 0 ≤ (((σ1 7 6) * 100) + (σ2 7 6)) ∧ (((σ1 7 6) * 100) + (σ2 7 6)) ≤ 6299 from by omega) (fun (σ3 : vS) g3 n3 => ?_)
                      have T3 : cT x (qnx x.1 x.2.1 (qnx x.1 x.2.1 p)) σ3 := cT_sg T2 g3
                      have F3 : cSf σ σ3 := cSf_sg F2 g3
                      have N3 : σ3 102 4 = (σ 102 4) + 1 := n3.trans N2
                      have y3 : σ3 7 4 = σ2 7 4 := congrFun (g3 7 (by decide)) 4
                      have hk4 : ¬ qkd x.1 x.2.1 x.2.2 (qnx x.1 x.2.1 (qnx x.1 x.2.1 p)) = 0 ∧ ¬ qkd x.1 x.2.1 x.2.2 (qnx x.1 x.2.1 (qnx x.1 x.2.1 p)) = 4 := by first | exact (cT_nks T3).1 (by omega) | omega
                      refine And.intro (cT_nx ⟨T3, hk4⟩) (fun s4 (σ4 : vS) ha4 f4 t4_ => ?_)
                      have T4 : cT x (qnx x.1 x.2.1 (qnx x.1 x.2.1 (qnx x.1 x.2.1 p))) σ4 := cT_next T3 hk4 ha4 f4 t4_
                      have F4 : cSf σ σ4 := cSf_cg F3 (cg_of f4)
                      clear ha4
                      have N4 : σ4 102 4 = (σ 102 4) + 1 := (congrFun ((cg_of f4).1 102 (by decide)) 4).trans N3
                      refine And.intro (show 0 ≤ 1 ∧ 1 ≤ 1 from by omega) ?_
                      refine And.intro (show 0 ≤ 1 ∧ 1 ≤ 1 from by omega) ?_
                      have hB := (cT_bg hT).2.2.1 (by omega)
                      have e3 : qsg3 x (qnx x.1 x.2.1 p) = true := (cT_s3 T1).mpr (by omega)
                      have e4 : qkd x.1 x.2.1 x.2.2 (qnx x.1 x.2.1 (qnx x.1 x.2.1 p)) = 2 := (cT_nks T2).2.1.mpr cu33
                      exact h1 (qnx x.1 x.2.1 (qnx x.1 x.2.1 (qnx x.1 x.2.1 p))) σ4 T4 F4 ⟨by rw [N4]; exact Int.le_refl _, by rw [N4]; exact hon⟩ (fun b L => by rw [N4]; exact (qN_og hT hn ((qop_s (by omega) hlim).trans ((if_pos e3).trans (if_pos e4)))).trans qN_d)
                    · refine And.intro (show 0 ≤ 0 ∧ 0 ≤ 1 from by omega) ?_
                      refine And.intro (show 0 ≤ 0 ∧ 0 ≤ 1 from by omega) ?_
                      exfalso; omega
                · refine And.intro (fun (q : ¬ 0 = 0) => absurd q (by decide)) (fun _ => ?_)
                  refine fun z (t36 : (z = 1 ∧ σ1 7 4 = 5 ∧ σ1 7 6 = 61) ∨ (z = 0 ∧ ¬ (σ1 7 4 = 5 ∧ σ1 7 6 = 61))) => ?_
                  rcases t36 with ⟨rfl, t36⟩ | ⟨rfl, t36⟩
                  · clear t32
                    refine And.intro (fun _ => ?_) (fun (q : 1 = 0) => absurd q (by decide))
                    have hk2 : ¬ qkd x.1 x.2.1 x.2.2 (qnx x.1 x.2.1 p) = 0 ∧ ¬ qkd x.1 x.2.1 x.2.2 (qnx x.1 x.2.1 p) = 4 := by first | exact (cT_nks T1).1 (by omega) | omega
                    refine And.intro (cT_nx ⟨T1, hk2⟩) (fun s2 (σ2 : vS) ha2 f2 t2_ => ?_)
                    have T2 : cT x (qnx x.1 x.2.1 (qnx x.1 x.2.1 p)) σ2 := cT_next T1 hk2 ha2 f2 t2_
                    have F2 : cSf σ σ2 := cSf_cg F1 (cg_of f2)
                    clear ha2
                    have N2 : σ2 102 4 = (σ 102 4) + 1 := (congrFun ((cg_of f2).1 102 (by decide)) 4).trans N1
                    have vu37 := cT_v T2
                    refine ⟨(cT_fl T2 (by decide : (0 : Int) ≤ 1 ∧ (1 : Int) ≤ 4)).2, fun cu37 => ?_, fun cu37 du37 => ?_, fun cu37 du37 eu37 => ?_⟩
                    · refine And.intro (fun (q : ¬ (-1) = (-1)) => absurd q (by decide)) (fun _ => ?_)
                      refine And.intro (show 0 ≤ 0 ∧ 0 ≤ 1 from by omega) ?_
                      refine And.intro (show 0 ≤ 0 ∧ 0 ≤ 1 from by omega) ?_
                      have hB := (cT_bg hT).2.2.1 (by omega)
                      have e3 : qsg3 x (qnx x.1 x.2.1 p) = true := (cT_s3 T1).mpr (by omega)
                      have e4 : ¬ qkd x.1 x.2.1 x.2.2 (qnx x.1 x.2.1 (qnx x.1 x.2.1 p)) = 2 := fun q => cu37 ((cT_nks T2).2.1.mp q)
                      exact h0 1 (qnx x.1 x.2.1 (qnx x.1 x.2.1 p)) (σ 102 4 + 1) _ (by decide) (fun b L => qN_of ((qop_s (by omega) hlim).trans ((if_pos e3).trans (if_neg e4))) (by decide)) (cFl_of T2) (cSf_cg F2 cg_fl)
                    · exfalso; have := vu37 cu37; omega
                    · have wu37 := vu37 cu37
                      clear vu37 du37 eu37
                      refine And.intro (fun (c38 : ¬ (σ2 7 6) = (-1)) => ?_) (fun (c39 : (σ2 7 6) = (-1)) => ?_)
                      · refine And.intro (show -2147483648 ≤ ((σ1 7 6) * 100) ∧ ((σ1 7 6) * 100) ≤ 2147483647 from by omega) ?_
                        refine And.intro (show -2147483648 ≤ (((σ1 7 6) * 100) + (σ2 7 6)) ∧ (((σ1 7 6) * 100) + (σ2 7 6)) ≤ 2147483647 from by omega) ?_
                        refine And.intro (show ((0 : Int) ≤ r9 ∧ r9 ≤ 29) ∧ 0 ≤ (((σ1 7 6) * 100) + (σ2 7 6)) ∧ (((σ1 7 6) * 100) + (σ2 7 6)) ≤ 6299 from by omega) (fun (σ3 : vS) g3 n3 => ?_)
                        have T3 : cT x (qnx x.1 x.2.1 (qnx x.1 x.2.1 p)) σ3 := cT_sg T2 g3
                        have F3 : cSf σ σ3 := cSf_sg F2 g3
                        have N3 : σ3 102 4 = (σ 102 4) + 1 := n3.trans N2
                        have y3 : σ3 7 4 = σ2 7 4 := congrFun (g3 7 (by decide)) 4
                        have hk4 : ¬ qkd x.1 x.2.1 x.2.2 (qnx x.1 x.2.1 (qnx x.1 x.2.1 p)) = 0 ∧ ¬ qkd x.1 x.2.1 x.2.2 (qnx x.1 x.2.1 (qnx x.1 x.2.1 p)) = 4 := by first | exact (cT_nks T3).1 (by omega) | omega
                        refine And.intro (cT_nx ⟨T3, hk4⟩) (fun s4 (σ4 : vS) ha4 f4 t4_ => ?_)
                        have T4 : cT x (qnx x.1 x.2.1 (qnx x.1 x.2.1 (qnx x.1 x.2.1 p))) σ4 := cT_next T3 hk4 ha4 f4 t4_
                        have F4 : cSf σ σ4 := cSf_cg F3 (cg_of f4)
                        clear ha4
                        have N4 : σ4 102 4 = (σ 102 4) + 1 := (congrFun ((cg_of f4).1 102 (by decide)) 4).trans N3
                        refine And.intro (show 0 ≤ 1 ∧ 1 ≤ 1 from by omega) ?_
                        refine And.intro (show 0 ≤ 1 ∧ 1 ≤ 1 from by omega) ?_
                        have hB := (cT_bg hT).2.2.1 (by omega)
                        have e3 : qsg3 x (qnx x.1 x.2.1 p) = true := (cT_s3 T1).mpr (by omega)
                        have e4 : qkd x.1 x.2.1 x.2.2 (qnx x.1 x.2.1 (qnx x.1 x.2.1 p)) = 2 := (cT_nks T2).2.1.mpr cu37
                        exact h1 (qnx x.1 x.2.1 (qnx x.1 x.2.1 (qnx x.1 x.2.1 p))) σ4 T4 F4 ⟨by rw [N4]; exact Int.le_refl _, by rw [N4]; exact hon⟩ (fun b L => by rw [N4]; exact (qN_og hT hn ((qop_s (by omega) hlim).trans ((if_pos e3).trans (if_pos e4)))).trans qN_d)
                      · refine And.intro (show 0 ≤ 0 ∧ 0 ≤ 1 from by omega) ?_
                        refine And.intro (show 0 ≤ 0 ∧ 0 ≤ 1 from by omega) ?_
                        exfalso; omega
                  · refine And.intro (fun (q : ¬ 0 = 0) => absurd q (by decide)) (fun _ => ?_)
                    refine fun z (t40 : (z = 1 ∧ σ1 7 4 = 5 ∧ σ1 7 6 = 62) ∨ (z = 0 ∧ ¬ (σ1 7 4 = 5 ∧ σ1 7 6 = 62))) => ?_
                    rcases t40 with ⟨rfl, t40⟩ | ⟨rfl, t40⟩
                    · clear t32 t36
                      refine And.intro (fun _ => ?_) (fun (q : 1 = 0) => absurd q (by decide))
                      have hk2 : ¬ qkd x.1 x.2.1 x.2.2 (qnx x.1 x.2.1 p) = 0 ∧ ¬ qkd x.1 x.2.1 x.2.2 (qnx x.1 x.2.1 p) = 4 := by first | exact (cT_nks T1).1 (by omega) | omega
                      refine And.intro (cT_nx ⟨T1, hk2⟩) (fun s2 (σ2 : vS) ha2 f2 t2_ => ?_)
                      have T2 : cT x (qnx x.1 x.2.1 (qnx x.1 x.2.1 p)) σ2 := cT_next T1 hk2 ha2 f2 t2_
                      have F2 : cSf σ σ2 := cSf_cg F1 (cg_of f2)
                      clear ha2
                      have N2 : σ2 102 4 = (σ 102 4) + 1 := (congrFun ((cg_of f2).1 102 (by decide)) 4).trans N1
                      have vu41 := cT_v T2
                      refine ⟨(cT_fl T2 (by decide : (0 : Int) ≤ 1 ∧ (1 : Int) ≤ 4)).2, fun cu41 => ?_, fun cu41 du41 => ?_, fun cu41 du41 eu41 => ?_⟩
                      · refine And.intro (fun (q : ¬ (-1) = (-1)) => absurd q (by decide)) (fun _ => ?_)
                        refine And.intro (show 0 ≤ 0 ∧ 0 ≤ 1 from by omega) ?_
                        refine And.intro (show 0 ≤ 0 ∧ 0 ≤ 1 from by omega) ?_
                        have hB := (cT_bg hT).2.2.1 (by omega)
                        have e3 : qsg3 x (qnx x.1 x.2.1 p) = true := (cT_s3 T1).mpr (by omega)
                        have e4 : ¬ qkd x.1 x.2.1 x.2.2 (qnx x.1 x.2.1 (qnx x.1 x.2.1 p)) = 2 := fun q => cu41 ((cT_nks T2).2.1.mp q)
                        exact h0 1 (qnx x.1 x.2.1 (qnx x.1 x.2.1 p)) (σ 102 4 + 1) _ (by decide) (fun b L => qN_of ((qop_s (by omega) hlim).trans ((if_pos e3).trans (if_neg e4))) (by decide)) (cFl_of T2) (cSf_cg F2 cg_fl)
                      · exfalso; have := vu41 cu41; omega
                      · have wu41 := vu41 cu41
                        clear vu41 du41 eu41
                        refine And.intro (fun (c42 : ¬ (σ2 7 6) = (-1)) => ?_) (fun (c43 : (σ2 7 6) = (-1)) => ?_)
                        · refine And.intro (show -2147483648 ≤ ((σ1 7 6) * 100) ∧ ((σ1 7 6) * 100) ≤ 2147483647 from by omega) ?_
                          refine And.intro (show -2147483648 ≤ (((σ1 7 6) * 100) + (σ2 7 6)) ∧ (((σ1 7 6) * 100) + (σ2 7 6)) ≤ 2147483647 from by omega) ?_
                          refine And.intro (show ((0 : Int) ≤ r9 ∧ r9 ≤ 29) ∧ 0 ≤ (((σ1 7 6) * 100) + (σ2 7 6)) ∧ (((σ1 7 6) * 100) + (σ2 7 6)) ≤ 6299 from by omega) (fun (σ3 : vS) g3 n3 => ?_)
                          have T3 : cT x (qnx x.1 x.2.1 (qnx x.1 x.2.1 p)) σ3 := cT_sg T2 g3
                          have F3 : cSf σ σ3 := cSf_sg F2 g3
                          have N3 : σ3 102 4 = (σ 102 4) + 1 := n3.trans N2
                          have y3 : σ3 7 4 = σ2 7 4 := congrFun (g3 7 (by decide)) 4
                          have hk4 : ¬ qkd x.1 x.2.1 x.2.2 (qnx x.1 x.2.1 (qnx x.1 x.2.1 p)) = 0 ∧ ¬ qkd x.1 x.2.1 x.2.2 (qnx x.1 x.2.1 (qnx x.1 x.2.1 p)) = 4 := by first | exact (cT_nks T3).1 (by omega) | omega
                          refine And.intro (cT_nx ⟨T3, hk4⟩) (fun s4 (σ4 : vS) ha4 f4 t4_ => ?_)
                          have T4 : cT x (qnx x.1 x.2.1 (qnx x.1 x.2.1 (qnx x.1 x.2.1 p))) σ4 := cT_next T3 hk4 ha4 f4 t4_
                          have F4 : cSf σ σ4 := cSf_cg F3 (cg_of f4)
                          clear ha4
                          have N4 : σ4 102 4 = (σ 102 4) + 1 := (congrFun ((cg_of f4).1 102 (by decide)) 4).trans N3
                          refine And.intro (show 0 ≤ 1 ∧ 1 ≤ 1 from by omega) ?_
                          refine And.intro (show 0 ≤ 1 ∧ 1 ≤ 1 from by omega) ?_
                          have hB := (cT_bg hT).2.2.1 (by omega)
                          have e3 : qsg3 x (qnx x.1 x.2.1 p) = true := (cT_s3 T1).mpr (by omega)
                          have e4 : qkd x.1 x.2.1 x.2.2 (qnx x.1 x.2.1 (qnx x.1 x.2.1 p)) = 2 := (cT_nks T2).2.1.mpr cu41
                          exact h1 (qnx x.1 x.2.1 (qnx x.1 x.2.1 (qnx x.1 x.2.1 p))) σ4 T4 F4 ⟨by rw [N4]; exact Int.le_refl _, by rw [N4]; exact hon⟩ (fun b L => by rw [N4]; exact (qN_og hT hn ((qop_s (by omega) hlim).trans ((if_pos e3).trans (if_pos e4)))).trans qN_d)
                        · refine And.intro (show 0 ≤ 0 ∧ 0 ≤ 1 from by omega) ?_
                          refine And.intro (show 0 ≤ 0 ∧ 0 ≤ 1 from by omega) ?_
                          exfalso; omega
                    · refine And.intro (fun (q : ¬ 0 = 0) => absurd q (by decide)) (fun _ => ?_)
                      refine And.intro (cT_fl T1 (by omega)) ?_
                      refine And.intro (show 0 ≤ 0 ∧ 0 ≤ 1 from by omega) ?_
                      refine And.intro (show 0 ≤ 0 ∧ 0 ≤ 1 from by omega) ?_
                      have hB := (cT_bg hT).2.2.1 (by omega)
                      have e3 : ¬ qsg3 x (qnx x.1 x.2.1 p) = true := fun q => by have := (cT_s3 T1).mp q; omega
                      exact h0 1 (qnx x.1 x.2.1 p) (σ 102 4 + 1) _ (by decide) (fun b L => qN_of ((qop_s (by omega) hlim).trans (if_neg e3)) (by decide)) (cFl_of T1) (cSf_cg F1 cg_fl)
            · refine And.intro (cT_fl hT (by omega)) ?_
              refine And.intro (show 0 ≤ 0 ∧ 0 ≤ 1 from by omega) ?_
              have hB : ¬ qbeg x p = -1 := by
                by_cases e : σ 7 6 = 21
                · have := (cT_bg hT).2.1 (by omega); omega
                · have := (cT_bg hT).2.2.1 (by omega); omega
              exact h0 4 p (σ 102 4) _ (by decide) (fun b L => qN_of (qop_4 hB (by omega)) (by decide)) (cFl_of hT) (cSf_cg cSf_refl cg_fl)
        · refine And.intro (cT_fl hT (by omega)) ?_
          refine And.intro (show 0 ≤ 0 ∧ 0 ≤ 1 from by omega) ?_
          have hB : qbeg x p = -1 := (cT_bg hT).2.2.2 t1 (by omega)
          exact h0 1 p (σ 102 4) _ (by decide) (fun b L => qN_of (qop_1 hB) (by decide)) (cFl_of hT) (cSf_cg cSf_refl cg_fl)
  · exact absurd h id
theorem vt_52z_4 (X : zX gKX E) (B : zB E) (i55 : zOKR E md72 w gr_55_4 (vt55 4)) {d bo i : Int} (hK : K (some (.inl 0)) σ) : zGC E md72 w gr_52_4.1 15 [(0, .inr (.inl 102)), (1, .inr (.inl 7)), (2, .inr (.inl 93)), (3, .inl d), (4, .inl 0), (5, .inl bo), (6, .inl i)] σ K := by
  refine zbdC (fun hb => zgoR (⟨rfl, rfl, rfl⟩ : zalt gr_52_4 (gm_52, 8)) (⟨rfl, rfl, rfl⟩ : zalt gr_55_4 (gm_55, 7)) X B zOKR_no i55 (vLA_ok X B) (by decide) [] [(15, [0, 1, 2, 3, 4, 5, 6])] (fun m => Nat.beq m.2.2.2.2.2.2.length 59) (by decide +kernel) ?_)
  refine And.intro (fun _ => ?_) (fun (q : ¬ 0 = 0) => absurd q (by decide))
  refine And.intro (show 0 ≤ 0 ∧ 0 ≤ 1 from by omega) ?_
  exact hK
set_option maxRecDepth 16384 in
theorem vt_52l_4 (X : zX gKX E) (B : zB E) (i55 : zOKR E md72 w gr_55_4 (vt55 4)) {d o0 p0 : Int} {x : qX} {S : qS} {σ0 : vS} (hd : d = 4) (hS0 : cSn S σ0) (hn : x.2.1 ≤ 940) (h0 : ∀ (k p2 o2 : Int) (σ2 : vS), ¬ k = 0 → (∀ L : List Int, qN x S false d d L o0 p0 = (k, p2, o2)) → cFl x k p2 σ2 → cSf σ0 σ2 → K (some (.inl 0)) σ2) (h1 : ∀ (p2 : Int) (σ2 : vS), cT x p2 σ2 → cSf σ0 σ2 → (o0 + 1 ≤ σ2 102 4 ∧ σ2 102 4 ≤ 20) → (∀ L : List Int, qN x S false d d L o0 p0 = qN x S true d d L (σ2 102 4) p2) → ¬ (qisw x p2 (qrw 20) = true ∨ qisw x p2 (qrw 19) = true) → K (some (.inl 1)) σ2) : ∀ (m : Nat) (bo i : Int) (σ : vS) (p : Int), 21 - i < (m : Int) → 0 ≤ i → (0 ≤ bo ∧ bo ≤ 1) → i + 1 ≤ σ 102 4 → cT x p σ → cSf σ0 σ → (o0 + 1 ≤ σ 102 4 ∧ σ 102 4 ≤ 20) → (∀ L : List Int, qN x S false d d L o0 p0 = qN x S true d d L (σ 102 4) p) → zGC E md72 w gr_52_4.1 15 [(0, .inr (.inl 102)), (1, .inr (.inl 7)), (2, .inr (.inl 93)), (3, .inl d), (4, .inl 1), (5, .inl bo), (6, .inl i)] σ K := by
  intro m
  induction m with
  | zero => intro bo i σ p h a c e; omega
  | succ m ih =>
    intro bo i σ p hm hi hbo hio hT hF ho hq
    have hS := cSn_f hS0 hF
    refine zbdC (fun hb => zgoR (⟨rfl, rfl, rfl⟩ : zalt gr_52_4 (gm_52, 8)) (⟨rfl, rfl, rfl⟩ : zalt gr_55_4 (gm_55, 7)) X B zOKR_no i55 (vLA_ok X B) (by decide) [] [(15, [0, 1, 2, 3, 4, 5, 6])] (fun m => Nat.beq m.2.2.2.2.2.2.length 59) (by decide +kernel) ?_)
    refine And.intro (fun (q : 1 = 0) => absurd q (by decide)) (fun _ => ?_)
    refine And.intro (fun (c1 : 20 < i) => ?_) (fun (c2 : i ≤ 20) => ?_)
    · refine And.intro (show 0 ≤ 0 ∧ 0 ≤ 1 from by omega) ?_
      exfalso; omega
    · refine fun (r3 : Int) (t4 : (σ 7 4 = 2 ∧ r3 = σ 7 6) ∨ (¬ σ 7 4 = 2 ∧ r3 = -1)) => ?_
      refine And.intro (fun (c5 : bo = 0) => ?_) (fun (c6 : ¬ bo = 0) => ?_)
      · refine And.intro (fun (c7 : r3 = 20) => ?_) (fun (c8 : ¬ r3 = 20) => ?_)
        · have hj : qisw x p (qrw 20) = true ∨ qisw x p (qrw 19) = true := by
            by_cases e : r3 = 20
            · exact Or.inl ((cT_kws hT (by decide)).mpr (by omega))
            · exact Or.inr ((cT_kws hT (by decide)).mpr (by omega))
          have eJ : ∀ L : List Int, qN x S true d d L (σ 102 4) p = qN x S false d d L (σ 102 4) (qnx x.1 x.2.1 p) := fun L => qN_jn hT hn hj
          have hkj : qkd x.1 x.2.1 x.2.2 p = 1 := hj.elim qisw_k qisw_k
          have hk1 : ¬ qkd x.1 x.2.1 x.2.2 p = 0 ∧ ¬ qkd x.1 x.2.1 x.2.2 p = 4 := by first | exact (cT_nks hT).1 (by omega) | omega
          refine And.intro (cT_nx ⟨hT, hk1⟩) (fun s1 (σ1 : vS) ha1 f1 t1_ => ?_)
          have T1 : cT x (qnx x.1 x.2.1 p) σ1 := cT_next hT hk1 ha1 f1 t1_
          have F1 : cSf σ σ1 := cSf_cg cSf_refl (cg_of f1)
          clear ha1
          have N1 : σ1 102 4 = σ 102 4 := congrFun ((cg_of f1).1 102 (by decide)) 4
          refine ⟨show d = 4 from by omega, x, (qnx x.1 x.2.1 p), S, ⟨T1, cSn_f hS F1, hn⟩, fun k2 p2 o2 (σ2 : vS) hk2 (q2 : (∀ (b : Int) (L : List Int), qN x S false d b L (σ1 102 4) (qnx x.1 x.2.1 p) = (k2, p2, o2))) fl2 g2 => ?_, fun p2 (σ2 : vS) (T2 : cT x p2 σ2) g2 m2 (q2 : (∀ (b : Int) (L : List Int), qN x S false d b L (σ1 102 4) (qnx x.1 x.2.1 p) = qN x S true b b L (σ2 102 4) p2)) => ?_⟩
          · rw [N1] at q2
            have F2 : cSf σ σ2 := cSf_tr F1 g2
            refine And.intro (fun (q : ¬ r3 = 20) => (by exfalso; omega)) (fun _ => ?_)
            refine And.intro (show ((0 : Int) ≤ 20 ∧ 20 ≤ 29) ∧ 0 ≤ 0 ∧ 0 ≤ 6299 from by omega) (fun (σ3 : vS) g3 n3 => ?_)
            have F3 : cSf σ σ3 := cSf_sg F2 g3
            have y3 : σ3 7 4 = σ2 7 4 := congrFun (g3 7 (by decide)) 4
            refine And.intro (show -2147483648 ≤ (i + 1) ∧ (i + 1) ≤ 2147483647 from by omega) ?_
            show zGC E md72 w gr_52_4.1 15 [(0, .inr (.inl 102)), (1, .inr (.inl 7)), (2, .inr (.inl 93)), (3, .inl d), (4, .inl 0), (5, .inl bo), (6, .inl (i + 1))] σ3 K
            exact vt_52z_4 X B i55 (h0 k2 p2 o2 σ3 hk2 (fun L => ((hq L).trans (eJ L)).trans (q2 d L)) (cFl_sg fl2 g3) (cSf_tr hF F3))
          · rw [N1] at q2 m2
            have F2 : cSf σ σ2 := cSf_tr F1 g2
            refine And.intro (fun (q : ¬ r3 = 20) => (by exfalso; omega)) (fun _ => ?_)
            refine And.intro (show ((0 : Int) ≤ 20 ∧ 20 ≤ 29) ∧ 0 ≤ 0 ∧ 0 ≤ 6299 from by omega) (fun (σ3 : vS) g3 n3 => ?_)
            have T3 : cT x p2 σ3 := cT_sg T2 g3
            have F3 : cSf σ σ3 := cSf_sg F2 g3
            have N3 : σ3 102 4 = σ2 102 4 := n3
            have y3 : σ3 7 4 = σ2 7 4 := congrFun (g3 7 (by decide)) 4
            refine And.intro (show -2147483648 ≤ (i + 1) ∧ (i + 1) ≤ 2147483647 from by omega) ?_
            show zGC E md72 w gr_52_4.1 15 [(0, .inr (.inl 102)), (1, .inr (.inl 7)), (2, .inr (.inl 93)), (3, .inl d), (4, .inl 1), (5, .inl bo), (6, .inl (i + 1))] σ3 K
            exact ih bo (i + 1) σ3 p2 (by omega) (by omega) (by omega) (by omega) T3 (cSf_tr hF F3) (by omega) (fun L => by rw [N3]; exact ((hq L).trans (eJ L)).trans (q2 d L))
        · refine And.intro (fun (c9 : r3 = 19) => ?_) (fun (c10 : ¬ r3 = 19) => ?_)
          · have hj : qisw x p (qrw 20) = true ∨ qisw x p (qrw 19) = true := by
              by_cases e : r3 = 20
              · exact Or.inl ((cT_kws hT (by decide)).mpr (by omega))
              · exact Or.inr ((cT_kws hT (by decide)).mpr (by omega))
            have eJ : ∀ L : List Int, qN x S true d d L (σ 102 4) p = qN x S false d d L (σ 102 4) (qnx x.1 x.2.1 p) := fun L => qN_jn hT hn hj
            have hkj : qkd x.1 x.2.1 x.2.2 p = 1 := hj.elim qisw_k qisw_k
            have hk1 : ¬ qkd x.1 x.2.1 x.2.2 p = 0 ∧ ¬ qkd x.1 x.2.1 x.2.2 p = 4 := by first | exact (cT_nks hT).1 (by omega) | omega
            refine And.intro (cT_nx ⟨hT, hk1⟩) (fun s1 (σ1 : vS) ha1 f1 t1_ => ?_)
            have T1 : cT x (qnx x.1 x.2.1 p) σ1 := cT_next hT hk1 ha1 f1 t1_
            have F1 : cSf σ σ1 := cSf_cg cSf_refl (cg_of f1)
            clear ha1
            have N1 : σ1 102 4 = σ 102 4 := congrFun ((cg_of f1).1 102 (by decide)) 4
            refine ⟨show d = 4 from by omega, x, (qnx x.1 x.2.1 p), S, ⟨T1, cSn_f hS F1, hn⟩, fun k2 p2 o2 (σ2 : vS) hk2 (q2 : (∀ (b : Int) (L : List Int), qN x S false d b L (σ1 102 4) (qnx x.1 x.2.1 p) = (k2, p2, o2))) fl2 g2 => ?_, fun p2 (σ2 : vS) (T2 : cT x p2 σ2) g2 m2 (q2 : (∀ (b : Int) (L : List Int), qN x S false d b L (σ1 102 4) (qnx x.1 x.2.1 p) = qN x S true b b L (σ2 102 4) p2)) => ?_⟩
            · rw [N1] at q2
              have F2 : cSf σ σ2 := cSf_tr F1 g2
              refine And.intro (fun _ => ?_) (fun (q : r3 = 20) => (by exfalso; omega))
              refine And.intro (show -2147483648 ≤ (i + 1) ∧ (i + 1) ≤ 2147483647 from by omega) ?_
              show zGC E md72 w gr_52_4.1 15 [(0, .inr (.inl 102)), (1, .inr (.inl 7)), (2, .inr (.inl 93)), (3, .inl d), (4, .inl 0), (5, .inl 1), (6, .inl (i + 1))] σ2 K
              exact vt_52z_4 X B i55 (h0 k2 p2 o2 σ2 hk2 (fun L => ((hq L).trans (eJ L)).trans (q2 d L)) fl2 (cSf_tr hF F2))
            · rw [N1] at q2 m2
              have F2 : cSf σ σ2 := cSf_tr F1 g2
              refine And.intro (fun _ => ?_) (fun (q : r3 = 20) => (by exfalso; omega))
              refine And.intro (show -2147483648 ≤ (i + 1) ∧ (i + 1) ≤ 2147483647 from by omega) ?_
              show zGC E md72 w gr_52_4.1 15 [(0, .inr (.inl 102)), (1, .inr (.inl 7)), (2, .inr (.inl 93)), (3, .inl d), (4, .inl 1), (5, .inl 1), (6, .inl (i + 1))] σ2 K
              exact ih 1 (i + 1) σ2 p2 (by omega) (by omega) (by omega) (by omega) T2 (cSf_tr hF F2) (by omega) (fun L => by exact ((hq L).trans (eJ L)).trans (q2 d L))
          · refine And.intro (show 0 ≤ 1 ∧ 1 ≤ 1 from by omega) ?_
            have hj : ¬ (qisw x p (qrw 20) = true ∨ qisw x p (qrw 19) = true) := fun q => q.elim (fun q => by have := (cT_kws hT (j := 20) (by decide)).mp q; omega) (fun q => by have := (cT_kws hT (j := 19) (by decide)).mp q; omega)
            exact h1 p σ hT (cSf_tr hF cSf_refl) (by omega) (fun L => by exact hq L) hj
      · refine And.intro (fun (c11 : r3 = 20) => ?_) (fun (c12 : ¬ r3 = 20) => ?_)
        · refine And.intro (fun _ => ?_) (fun (q : ¬ r3 = 20) => (by exfalso; omega))
          have hj : qisw x p (qrw 20) = true ∨ qisw x p (qrw 19) = true := by
            by_cases e : r3 = 20
            · exact Or.inl ((cT_kws hT (by decide)).mpr (by omega))
            · exact Or.inr ((cT_kws hT (by decide)).mpr (by omega))
          have eJ : ∀ L : List Int, qN x S true d d L (σ 102 4) p = qN x S false d d L (σ 102 4) (qnx x.1 x.2.1 p) := fun L => qN_jn hT hn hj
          have hkj : qkd x.1 x.2.1 x.2.2 p = 1 := hj.elim qisw_k qisw_k
          have hk1 : ¬ qkd x.1 x.2.1 x.2.2 p = 0 ∧ ¬ qkd x.1 x.2.1 x.2.2 p = 4 := by first | exact (cT_nks hT).1 (by omega) | omega
          refine And.intro (cT_nx ⟨hT, hk1⟩) (fun s1 (σ1 : vS) ha1 f1 t1_ => ?_)
          have T1 : cT x (qnx x.1 x.2.1 p) σ1 := cT_next hT hk1 ha1 f1 t1_
          have F1 : cSf σ σ1 := cSf_cg cSf_refl (cg_of f1)
          clear ha1
          have N1 : σ1 102 4 = σ 102 4 := congrFun ((cg_of f1).1 102 (by decide)) 4
          refine ⟨show d = 4 from by omega, x, (qnx x.1 x.2.1 p), S, ⟨T1, cSn_f hS F1, hn⟩, fun k2 p2 o2 (σ2 : vS) hk2 (q2 : (∀ (b : Int) (L : List Int), qN x S false d b L (σ1 102 4) (qnx x.1 x.2.1 p) = (k2, p2, o2))) fl2 g2 => ?_, fun p2 (σ2 : vS) (T2 : cT x p2 σ2) g2 m2 (q2 : (∀ (b : Int) (L : List Int), qN x S false d b L (σ1 102 4) (qnx x.1 x.2.1 p) = qN x S true b b L (σ2 102 4) p2)) => ?_⟩
          · rw [N1] at q2
            have F2 : cSf σ σ2 := cSf_tr F1 g2
            refine And.intro (fun (q : ¬ r3 = 20) => (by exfalso; omega)) (fun _ => ?_)
            refine And.intro (show ((0 : Int) ≤ 20 ∧ 20 ≤ 29) ∧ 0 ≤ 0 ∧ 0 ≤ 6299 from by omega) (fun (σ3 : vS) g3 n3 => ?_)
            have F3 : cSf σ σ3 := cSf_sg F2 g3
            have y3 : σ3 7 4 = σ2 7 4 := congrFun (g3 7 (by decide)) 4
            refine And.intro (show -2147483648 ≤ (i + 1) ∧ (i + 1) ≤ 2147483647 from by omega) ?_
            show zGC E md72 w gr_52_4.1 15 [(0, .inr (.inl 102)), (1, .inr (.inl 7)), (2, .inr (.inl 93)), (3, .inl d), (4, .inl 0), (5, .inl bo), (6, .inl (i + 1))] σ3 K
            exact vt_52z_4 X B i55 (h0 k2 p2 o2 σ3 hk2 (fun L => ((hq L).trans (eJ L)).trans (q2 d L)) (cFl_sg fl2 g3) (cSf_tr hF F3))
          · rw [N1] at q2 m2
            have F2 : cSf σ σ2 := cSf_tr F1 g2
            refine And.intro (fun (q : ¬ r3 = 20) => (by exfalso; omega)) (fun _ => ?_)
            refine And.intro (show ((0 : Int) ≤ 20 ∧ 20 ≤ 29) ∧ 0 ≤ 0 ∧ 0 ≤ 6299 from by omega) (fun (σ3 : vS) g3 n3 => ?_)
            have T3 : cT x p2 σ3 := cT_sg T2 g3
            have F3 : cSf σ σ3 := cSf_sg F2 g3
            have N3 : σ3 102 4 = σ2 102 4 := n3
            have y3 : σ3 7 4 = σ2 7 4 := congrFun (g3 7 (by decide)) 4
            refine And.intro (show -2147483648 ≤ (i + 1) ∧ (i + 1) ≤ 2147483647 from by omega) ?_
            show zGC E md72 w gr_52_4.1 15 [(0, .inr (.inl 102)), (1, .inr (.inl 7)), (2, .inr (.inl 93)), (3, .inl d), (4, .inl 1), (5, .inl bo), (6, .inl (i + 1))] σ3 K
            exact ih bo (i + 1) σ3 p2 (by omega) (by omega) (by omega) (by omega) T3 (cSf_tr hF F3) (by omega) (fun L => by rw [N3]; exact ((hq L).trans (eJ L)).trans (q2 d L))
        · refine And.intro (show ((0 : Int) ≤ 19 ∧ 19 ≤ 29) ∧ 0 ≤ 0 ∧ 0 ≤ 6299 from by omega) (fun (σ1 : vS) g1 n1 => ?_)
          have T1 : cT x p σ1 := cT_sg hT g1
          have F1 : cSf σ σ1 := cSf_sg cSf_refl g1
          have N1 : σ1 102 4 = σ 102 4 := n1
          have y1 : σ1 7 4 = σ 7 4 := congrFun (g1 7 (by decide)) 4
          refine And.intro (fun (c13 : r3 = 20) => ?_) (fun (c14 : ¬ r3 = 20) => ?_)
          · have hj : qisw x p (qrw 20) = true ∨ qisw x p (qrw 19) = true := by
              by_cases e : r3 = 20
              · exact Or.inl ((cT_kws hT (by decide)).mpr (by omega))
              · exact Or.inr ((cT_kws hT (by decide)).mpr (by omega))
            have eJ : ∀ L : List Int, qN x S true d d L (σ 102 4) p = qN x S false d d L (σ 102 4) (qnx x.1 x.2.1 p) := fun L => qN_jn hT hn hj
            have hkj : qkd x.1 x.2.1 x.2.2 p = 1 := hj.elim qisw_k qisw_k
            have hk2 : ¬ qkd x.1 x.2.1 x.2.2 p = 0 ∧ ¬ qkd x.1 x.2.1 x.2.2 p = 4 := by first | exact (cT_nks T1).1 (by omega) | omega
            refine And.intro (cT_nx ⟨T1, hk2⟩) (fun s2 (σ2 : vS) ha2 f2 t2_ => ?_)
            have T2 : cT x (qnx x.1 x.2.1 p) σ2 := cT_next T1 hk2 ha2 f2 t2_
            have F2 : cSf σ σ2 := cSf_cg F1 (cg_of f2)
            clear ha2
            have N2 : σ2 102 4 = σ 102 4 := (congrFun ((cg_of f2).1 102 (by decide)) 4).trans N1
            refine ⟨show d = 4 from by omega, x, (qnx x.1 x.2.1 p), S, ⟨T2, cSn_f hS F2, hn⟩, fun k3 p3 o3 (σ3 : vS) hk3 (q3 : (∀ (b : Int) (L : List Int), qN x S false d b L (σ2 102 4) (qnx x.1 x.2.1 p) = (k3, p3, o3))) fl3 g3 => ?_, fun p3 (σ3 : vS) (T3 : cT x p3 σ3) g3 m3 (q3 : (∀ (b : Int) (L : List Int), qN x S false d b L (σ2 102 4) (qnx x.1 x.2.1 p) = qN x S true b b L (σ3 102 4) p3)) => ?_⟩
            · rw [N2] at q3
              have F3 : cSf σ σ3 := cSf_tr F2 g3
              refine And.intro (fun (q : ¬ r3 = 20) => (by exfalso; omega)) (fun _ => ?_)
              refine And.intro (show ((0 : Int) ≤ 20 ∧ 20 ≤ 29) ∧ 0 ≤ 0 ∧ 0 ≤ 6299 from by omega) (fun (σ4 : vS) g4 n4 => ?_)
              have F4 : cSf σ σ4 := cSf_sg F3 g4
              have y4 : σ4 7 4 = σ3 7 4 := congrFun (g4 7 (by decide)) 4
              refine And.intro (show -2147483648 ≤ (i + 1) ∧ (i + 1) ≤ 2147483647 from by omega) ?_
              show zGC E md72 w gr_52_4.1 15 [(0, .inr (.inl 102)), (1, .inr (.inl 7)), (2, .inr (.inl 93)), (3, .inl d), (4, .inl 0), (5, .inl 0), (6, .inl (i + 1))] σ4 K
              exact vt_52z_4 X B i55 (h0 k3 p3 o3 σ4 hk3 (fun L => ((hq L).trans (eJ L)).trans (q3 d L)) (cFl_sg fl3 g4) (cSf_tr hF F4))
            · rw [N2] at q3 m3
              have F3 : cSf σ σ3 := cSf_tr F2 g3
              refine And.intro (fun (q : ¬ r3 = 20) => (by exfalso; omega)) (fun _ => ?_)
              refine And.intro (show ((0 : Int) ≤ 20 ∧ 20 ≤ 29) ∧ 0 ≤ 0 ∧ 0 ≤ 6299 from by omega) (fun (σ4 : vS) g4 n4 => ?_)
              have T4 : cT x p3 σ4 := cT_sg T3 g4
              have F4 : cSf σ σ4 := cSf_sg F3 g4
              have N4 : σ4 102 4 = σ3 102 4 := n4
              have y4 : σ4 7 4 = σ3 7 4 := congrFun (g4 7 (by decide)) 4
              refine And.intro (show -2147483648 ≤ (i + 1) ∧ (i + 1) ≤ 2147483647 from by omega) ?_
              show zGC E md72 w gr_52_4.1 15 [(0, .inr (.inl 102)), (1, .inr (.inl 7)), (2, .inr (.inl 93)), (3, .inl d), (4, .inl 1), (5, .inl 0), (6, .inl (i + 1))] σ4 K
              exact ih 0 (i + 1) σ4 p3 (by omega) (by omega) (by omega) (by omega) T4 (cSf_tr hF F4) (by omega) (fun L => by rw [N4]; exact ((hq L).trans (eJ L)).trans (q3 d L))
          · refine And.intro (fun (c15 : r3 = 19) => ?_) (fun (c16 : ¬ r3 = 19) => ?_)
            · have hj : qisw x p (qrw 20) = true ∨ qisw x p (qrw 19) = true := by
                by_cases e : r3 = 20
                · exact Or.inl ((cT_kws hT (by decide)).mpr (by omega))
                · exact Or.inr ((cT_kws hT (by decide)).mpr (by omega))
              have eJ : ∀ L : List Int, qN x S true d d L (σ 102 4) p = qN x S false d d L (σ 102 4) (qnx x.1 x.2.1 p) := fun L => qN_jn hT hn hj
              have hkj : qkd x.1 x.2.1 x.2.2 p = 1 := hj.elim qisw_k qisw_k
              have hk2 : ¬ qkd x.1 x.2.1 x.2.2 p = 0 ∧ ¬ qkd x.1 x.2.1 x.2.2 p = 4 := by first | exact (cT_nks T1).1 (by omega) | omega
              refine And.intro (cT_nx ⟨T1, hk2⟩) (fun s2 (σ2 : vS) ha2 f2 t2_ => ?_)
              have T2 : cT x (qnx x.1 x.2.1 p) σ2 := cT_next T1 hk2 ha2 f2 t2_
              have F2 : cSf σ σ2 := cSf_cg F1 (cg_of f2)
              clear ha2
              have N2 : σ2 102 4 = σ 102 4 := (congrFun ((cg_of f2).1 102 (by decide)) 4).trans N1
              refine ⟨show d = 4 from by omega, x, (qnx x.1 x.2.1 p), S, ⟨T2, cSn_f hS F2, hn⟩, fun k3 p3 o3 (σ3 : vS) hk3 (q3 : (∀ (b : Int) (L : List Int), qN x S false d b L (σ2 102 4) (qnx x.1 x.2.1 p) = (k3, p3, o3))) fl3 g3 => ?_, fun p3 (σ3 : vS) (T3 : cT x p3 σ3) g3 m3 (q3 : (∀ (b : Int) (L : List Int), qN x S false d b L (σ2 102 4) (qnx x.1 x.2.1 p) = qN x S true b b L (σ3 102 4) p3)) => ?_⟩
              · rw [N2] at q3
                have F3 : cSf σ σ3 := cSf_tr F2 g3
                refine And.intro (fun _ => ?_) (fun (q : r3 = 20) => (by exfalso; omega))
                refine And.intro (show -2147483648 ≤ (i + 1) ∧ (i + 1) ≤ 2147483647 from by omega) ?_
                show zGC E md72 w gr_52_4.1 15 [(0, .inr (.inl 102)), (1, .inr (.inl 7)), (2, .inr (.inl 93)), (3, .inl d), (4, .inl 0), (5, .inl 1), (6, .inl (i + 1))] σ3 K
                exact vt_52z_4 X B i55 (h0 k3 p3 o3 σ3 hk3 (fun L => ((hq L).trans (eJ L)).trans (q3 d L)) fl3 (cSf_tr hF F3))
              · rw [N2] at q3 m3
                have F3 : cSf σ σ3 := cSf_tr F2 g3
                refine And.intro (fun _ => ?_) (fun (q : r3 = 20) => (by exfalso; omega))
                refine And.intro (show -2147483648 ≤ (i + 1) ∧ (i + 1) ≤ 2147483647 from by omega) ?_
                show zGC E md72 w gr_52_4.1 15 [(0, .inr (.inl 102)), (1, .inr (.inl 7)), (2, .inr (.inl 93)), (3, .inl d), (4, .inl 1), (5, .inl 1), (6, .inl (i + 1))] σ3 K
                exact ih 1 (i + 1) σ3 p3 (by omega) (by omega) (by omega) (by omega) T3 (cSf_tr hF F3) (by omega) (fun L => by exact ((hq L).trans (eJ L)).trans (q3 d L))
            · refine And.intro (show 0 ≤ 1 ∧ 1 ≤ 1 from by omega) ?_
              have hj : ¬ (qisw x p (qrw 20) = true ∨ qisw x p (qrw 19) = true) := fun q => q.elim (fun q => by have := (cT_kws hT (j := 20) (by decide)).mp q; omega) (fun q => by have := (cT_kws hT (j := 19) (by decide)).mp q; omega)
              exact h1 p σ1 T1 (cSf_tr hF F1) (by omega) (fun L => by rw [N1]; exact hq L) hj
set_option maxRecDepth 16384 in
theorem vt_52_4 (X : zX gKX E) (B : zB E) (i55 : zOKR E md72 w gr_55_4 (vt55 4)) : zOKR E md72 w gr_52_4 (vt52 4) := by
  intro vs σ K h
  unfold vt52 at h
  split at h
  · rename_i d
    obtain ⟨hd, x, p, S, ⟨hT, hS, hn⟩, h0, h1⟩ := h
    show zGC E md72 w gr_52_4.1 0 [(0, .inr (.inl 102)), (1, .inr (.inl 7)), (2, .inr (.inl 93)), (3, .inl d)] σ K
    refine zbdC (fun hb0 => ?_)
    have b4 : 0 ≤ σ 102 4 ∧ σ 102 4 ≤ 20 := zfC hb0 (t := 102) (f := 4) (by decide +kernel)
    refine zbdC (fun hb => zgoR (⟨rfl, rfl, rfl⟩ : zalt gr_52_4 (gm_52, 8)) (⟨rfl, rfl, rfl⟩ : zalt gr_55_4 (gm_55, 7)) X B zOKR_no i55 (vLA_ok X B) (by decide) [] [(15, [0, 1, 2, 3, 4, 5, 6])] (fun m => Nat.beq m.2.2.2.2.2.2.length 59) (by decide +kernel) ?_)
    refine ⟨show d = 4 from by omega, x, p, S, ⟨hT, cSn_f hS cSf_refl, hn⟩, fun k1 p1 o1 (σ1 : vS) hk1 (q1 : (∀ (b : Int) (L : List Int), qN x S false d b L (σ 102 4) p = (k1, p1, o1))) fl1 g1 => ?_, fun p1 (σ1 : vS) (T1 : cT x p1 σ1) g1 m1 (q1 : (∀ (b : Int) (L : List Int), qN x S false d b L (σ 102 4) p = qN x S true b b L (σ1 102 4) p1)) => ?_⟩
    · have F1 : cSf σ σ1 := cSf_tr cSf_refl g1
      show zGC E md72 w gr_52_4.1 15 [(0, .inr (.inl 102)), (1, .inr (.inl 7)), (2, .inr (.inl 93)), (3, .inl d), (4, .inl 0), (5, .inl 0), (6, .inl 0)] σ1 K
      exact vt_52z_4 X B i55 (h0 k1 p1 o1 σ1 hk1 (fun L => q1 d L) fl1 F1)
    · have F1 : cSf σ σ1 := cSf_tr cSf_refl g1
      show zGC E md72 w gr_52_4.1 15 [(0, .inr (.inl 102)), (1, .inr (.inl 7)), (2, .inr (.inl 93)), (3, .inl d), (4, .inl 1), (5, .inl 0), (6, .inl 0)] σ1 K
      exact vt_52l_4 X B i55 hd hS hn h0 h1 22 0 0 σ1 p1 (by omega) (by omega) (by omega) (by omega) T1 F1 (by omega) (fun L => q1 d L)
  · exact absurd h id
set_option maxRecDepth 16384 in
theorem vt_55_3 (X : zX gKX E) (B : zB E) (i55 : zOKR E md72 w gr_55_4 (vt55 4)) (i52 : zOKR E md72 w gr_52_4 (vt52 4)) : zOKR E md72 w gr_55_3 (vt55 3) := by
  intro vs σ K h
  unfold vt55 at h
  split at h
  · rename_i d
    obtain ⟨hd, x, p, S, ⟨hT, hS, hn⟩, h0, h1⟩ := h
    show zGC E md72 w gr_55_3.1 0 [(0, .inr (.inl 102)), (1, .inr (.inl 7)), (2, .inr (.inl 93)), (3, .inl d)] σ K
    refine zbdC (fun hb => zgoR (⟨rfl, rfl, rfl⟩ : zalt gr_52_4 (gm_52, 8)) (⟨rfl, rfl, rfl⟩ : zalt gr_55_4 (gm_55, 7)) X B i52 i55 (vLA_ok X B) (by decide) [] [] (fun m => false) (by decide +kernel) ?_)
    refine fun z (t1 : (z = 1 ∧ σ 7 4 = 5 ∧ σ 7 6 = 40) ∨ (z = 0 ∧ ¬ (σ 7 4 = 5 ∧ σ 7 6 = 40))) => ?_
    rcases t1 with ⟨rfl, t1⟩ | ⟨rfl, t1⟩
    · refine fun (r2 : Int) (t3 : (σ 7 4 = 2 ∧ r2 = σ 7 6) ∨ (¬ σ 7 4 = 2 ∧ r2 = -1)) => ?_
      refine And.intro (fun _ => ?_) (fun (q : 1 = 0) => absurd q (by decide))
      have f4 : 0 ≤ σ 102 4 ∧ σ 102 4 ≤ 20 := zfC hb (t := 102) (f := 4) (by decide +kernel)
      refine And.intro (fun (c5 : 20 ≤ (σ 102 4)) => ?_) (fun (c6 : (σ 102 4) < 20) => ?_)
      · refine And.intro (cT_fl hT (by omega)) ?_
        refine And.intro (show 0 ≤ 0 ∧ 0 ≤ 1 from by omega) ?_
        have hB : ¬ qbeg x p = -1 := by have := (cT_bg hT).1 t1; omega
        exact h0 4 p (σ 102 4) _ (by decide) (fun b L => qN_of (qop_4 hB (by omega)) (by decide)) (cFl_of hT) (cSf_cg cSf_refl cg_fl)
      · refine And.intro (fun (c7 : d ≤ 8) => ?_) (fun (c8 : 8 < d) => ?_)
        · refine And.intro (show -2147483648 ≤ ((σ 102 4) + 1) ∧ ((σ 102 4) + 1) ≤ 2147483647 from by omega) ?_
          refine And.intro (show 0 ≤ ((σ 102 4) + 1) ∧ ((σ 102 4) + 1) ≤ 20 from by omega) ?_
          have hlim : ¬ (σ 102 4 = 20 ∨ 8 < d) := by omega
          have hB : qbeg x p = 9 := (cT_bg hT).1 t1
          have hon : σ 102 4 + 1 ≤ 20 := by omega
          have hk1 : ¬ qkd x.1 x.2.1 x.2.2 p = 0 ∧ ¬ qkd x.1 x.2.1 x.2.2 p = 4 := by first | exact (cT_nks hT).1 (by omega) | omega
          refine And.intro (cT_nx ⟨(cT_t hT (by decide)), hk1⟩) (fun s1 (σ1 : vS) ha1 f1 t1_ => ?_)
          have T1 : cT x (qnx x.1 x.2.1 p) σ1 := cT_next (cT_t hT (by decide)) hk1 ha1 f1 t1_
          have F1 : cSf σ σ1 := cSf_cg (cSf_up (by decide) cSf_refl) (cg_of f1)
          clear ha1
          clear t3
          have N1 : σ1 102 4 = (σ 102 4) + 1 := (congrFun ((cg_of f1).1 102 (by decide)) 4).trans vup_eq
          refine And.intro (fun (q : 1 = 0) => absurd q (by decide)) (fun _ => ?_)
          refine And.intro (show -2147483648 ≤ (d + 1) ∧ (d + 1) ≤ 2147483647 from by omega) ?_
          have eA : ∀ (b : Int) (L : List Int), qN x S false d b L (σ 102 4) p = qN x S false (d + 1) (d + 1) (b :: L) (σ 102 4 + 1) (qnx x.1 x.2.1 p) := fun b L => qN_og hT hn (qop_9 hB hlim)
          refine ⟨show d + 1 = 4 from by omega, x, (qnx x.1 x.2.1 p), S, ⟨T1, cSn_f hS F1, hn⟩, fun k2 p2 o2 (σ2 : vS) hk2 (q2 : (∀ L : List Int, qN x S false (d + 1) (d + 1) L (σ1 102 4) (qnx x.1 x.2.1 p) = (k2, p2, o2))) fl2 g2 => ?_, fun p2 (σ2 : vS) (T2 : cT x p2 σ2) g2 m2 (q2 : (∀ L : List Int, qN x S false (d + 1) (d + 1) L (σ1 102 4) (qnx x.1 x.2.1 p) = qN x S true (d + 1) (d + 1) L (σ2 102 4) p2)) hj2 => ?_⟩
          · rw [N1] at q2
            have F2 : cSf σ σ2 := cSf_tr F1 g2
            refine And.intro (fun _ => ?_) (fun (q : ¬ 0 = 0) => absurd q (by decide))
            refine And.intro (show 0 ≤ 0 ∧ 0 ≤ 1 from by omega) ?_
            exact h0 k2 p2 o2 σ2 hk2 (fun b L => (eA b L).trans (q2 (b :: L))) fl2 F2
          · rw [N1] at q2 m2
            have F2 : cSf σ σ2 := cSf_tr F1 g2
            refine And.intro (fun (q : 1 = 0) => absurd q (by decide)) (fun _ => ?_)
            refine ⟨x, p2, T2, fun e3 (σ3 : vS) fl3 g3 => ?_, fun e3 (σ3 : vS) T3 g3 => ?_⟩
            · have F3 : cSf σ σ3 := cSf_cg F2 g3
              refine And.intro (fun _ => ?_) (fun (q : ¬ 0 = 0) => absurd q (by decide))
              refine And.intro (show 0 ≤ 0 ∧ 0 ≤ 1 from by omega) ?_
              exact h0 1 p2 (σ2 102 4) σ3 (by decide) (fun b L => ((eA b L).trans (q2 (b :: L))).trans (qN_nc hj2 e3)) fl3 F3
            · have F3 : cSf σ σ3 := cSf_cg F2 g3
              have N3 : σ3 102 4 = σ2 102 4 := congrFun (g3.1 102 (by decide)) 4
              refine And.intro (fun (q : 1 = 0) => absurd q (by decide)) (fun _ => ?_)
              refine And.intro (show 0 ≤ 1 ∧ 1 ≤ 1 from by omega) ?_
              exact h1 (qnx x.1 x.2.1 p2) σ3 T3 F3 (by omega) (fun b L => by rw [N3]; exact ((eA b L).trans (q2 (b :: L))).trans (qN_cl T2 hn hj2 e3))
        · refine And.intro (cT_fl hT (by omega)) ?_
          refine And.intro (show 0 ≤ 0 ∧ 0 ≤ 1 from by omega) ?_
          have hB : ¬ qbeg x p = -1 := by have := (cT_bg hT).1 t1; omega
          exact h0 4 p (σ 102 4) _ (by decide) (fun b L => qN_of (qop_4 hB (by omega)) (by decide)) (cFl_of hT) (cSf_cg cSf_refl cg_fl)
    · refine fun (r9 : Int) (t10 : (σ 7 4 = 2 ∧ r9 = σ 7 6) ∨ (¬ σ 7 4 = 2 ∧ r9 = -1)) => ?_
      refine And.intro (fun (q : ¬ 0 = 0) => absurd q (by decide)) (fun _ => ?_)
      refine And.intro (fun (c11 : r9 < 21) => ?_) (fun (c12 : 21 ≤ r9) => ?_)
      · refine And.intro (cT_fl hT (by omega)) ?_
        refine And.intro (show 0 ≤ 0 ∧ 0 ≤ 1 from by omega) ?_
        have hB : qbeg x p = -1 := (cT_bg hT).2.2.2 t1 (by omega)
        exact h0 1 p (σ 102 4) _ (by decide) (fun b L => qN_of (qop_1 hB) (by decide)) (cFl_of hT) (cSf_cg cSf_refl cg_fl)
      · refine And.intro (fun (c13 : r9 ≤ 29) => ?_) (fun (c14 : 29 < r9) => ?_)
        · have f15 : 0 ≤ σ 102 4 ∧ σ 102 4 ≤ 20 := zfC hb (t := 102) (f := 4) (by decide +kernel)
          refine And.intro (fun (c16 : 20 ≤ (σ 102 4)) => ?_) (fun (c17 : (σ 102 4) < 20) => ?_)
          · refine And.intro (cT_fl hT (by omega)) ?_
            refine And.intro (show 0 ≤ 0 ∧ 0 ≤ 1 from by omega) ?_
            have hB : ¬ qbeg x p = -1 := by
              by_cases e : σ 7 6 = 21
              · have := (cT_bg hT).2.1 (by omega); omega
              · have := (cT_bg hT).2.2.1 (by omega); omega
            exact h0 4 p (σ 102 4) _ (by decide) (fun b L => qN_of (qop_4 hB (by omega)) (by decide)) (cFl_of hT) (cSf_cg cSf_refl cg_fl)
          · refine And.intro (fun (c18 : d ≤ 8) => ?_) (fun (c19 : 8 < d) => ?_)
            · refine And.intro (show -2147483648 ≤ ((σ 102 4) + 1) ∧ ((σ 102 4) + 1) ≤ 2147483647 from by omega) ?_
              refine And.intro (show 0 ≤ ((σ 102 4) + 1) ∧ ((σ 102 4) + 1) ≤ 20 from by omega) ?_
              have hlim : ¬ (σ 102 4 = 20 ∨ 8 < d) := by omega
              have hon : σ 102 4 + 1 ≤ 20 := by omega
              have hr : σ 7 4 = 2 ∧ r9 = σ 7 6 := by omega
              have hk1 : ¬ qkd x.1 x.2.1 x.2.2 p = 0 ∧ ¬ qkd x.1 x.2.1 x.2.2 p = 4 := by first | exact (cT_nks hT).1 (by omega) | omega
              refine And.intro (cT_nx ⟨(cT_t hT (by decide)), hk1⟩) (fun s1 (σ1 : vS) ha1 f1 t1_ => ?_)
              have T1 : cT x (qnx x.1 x.2.1 p) σ1 := cT_next (cT_t hT (by decide)) hk1 ha1 f1 t1_
              have F1 : cSf σ σ1 := cSf_cg (cSf_up (by decide) cSf_refl) (cg_of f1)
              clear ha1
              clear t10 t1
              have N1 : σ1 102 4 = (σ 102 4) + 1 := (congrFun ((cg_of f1).1 102 (by decide)) 4).trans vup_eq
              refine And.intro (fun _ => ?_) (fun (q : ¬ 0 = 0) => absurd q (by decide))
              refine And.intro (And.intro (fun (c20 : r9 = 21) => ?_) (And.intro (fun (c21 : r9 = 22) => ?_) (And.intro (fun (c22 : r9 = 23) => ?_) (And.intro (fun (c23 : r9 = 24) => ?_) (And.intro (fun (c24 : r9 = 25) => ?_) (trivial)))))) (fun (c25 : r9 < 21 ∨ 25 < r9) => ?_)
              · refine And.intro (show -2147483648 ≤ (d + 1) ∧ (d + 1) ≤ 2147483647 from by omega) ?_
                have hB : qbeg x p = 8 := (cT_bg hT).2.1 (by omega)
                have eA : ∀ (b : Int) (L : List Int), qN x S false d b L (σ 102 4) p = qN x S false (d + 1) b L (σ 102 4 + 1) (qnx x.1 x.2.1 p) := fun b L => qN_og hT hn (qop_8 hB hlim)
                refine ⟨show d + 1 = 4 from by omega, x, (qnx x.1 x.2.1 p), S, ⟨T1, cSn_f hS F1, hn⟩, fun k2 p2 o2 (σ2 : vS) hk2 (q2 : (∀ (b : Int) (L : List Int), qN x S false (d + 1) b L (σ1 102 4) (qnx x.1 x.2.1 p) = (k2, p2, o2))) fl2 g2 => ?_, fun p2 (σ2 : vS) (T2 : cT x p2 σ2) g2 m2 (q2 : (∀ (b : Int) (L : List Int), qN x S false (d + 1) b L (σ1 102 4) (qnx x.1 x.2.1 p) = qN x S true b b L (σ2 102 4) p2)) => ?_⟩
                · rw [N1] at q2
                  have F2 : cSf σ σ2 := cSf_tr F1 g2
                  refine And.intro (show ((0 : Int) ≤ 21 ∧ 21 ≤ 29) ∧ 0 ≤ 0 ∧ 0 ≤ 6299 from by omega) (fun (σ3 : vS) g3 n3 => ?_)
                  have F3 : cSf σ σ3 := cSf_sg F2 g3
                  have y3 : σ3 7 4 = σ2 7 4 := congrFun (g3 7 (by decide)) 4
                  refine And.intro (show 0 ≤ 0 ∧ 0 ≤ 1 from by omega) ?_
                  exact h0 k2 p2 o2 σ3 hk2 (fun b L => (eA b L).trans (q2 b L)) (cFl_sg fl2 g3) F3
                · rw [N1] at q2 m2
                  have F2 : cSf σ σ2 := cSf_tr F1 g2
                  refine And.intro (show ((0 : Int) ≤ 21 ∧ 21 ≤ 29) ∧ 0 ≤ 0 ∧ 0 ≤ 6299 from by omega) (fun (σ3 : vS) g3 n3 => ?_)
                  have T3 : cT x p2 σ3 := cT_sg T2 g3
                  have F3 : cSf σ σ3 := cSf_sg F2 g3
                  have N3 : σ3 102 4 = σ2 102 4 := n3
                  have y3 : σ3 7 4 = σ2 7 4 := congrFun (g3 7 (by decide)) 4
                  refine And.intro (show 0 ≤ 1 ∧ 1 ≤ 1 from by omega) ?_
                  exact h1 p2 σ3 T3 F3 (by omega) (fun b L => by rw [N3]; exact (eA b L).trans (q2 b L))
              · refine And.intro (show ((0 : Int) ≤ r9 ∧ r9 ≤ 29) ∧ 0 ≤ 0 ∧ 0 ≤ 6299 from by omega) (fun (σ2 : vS) g2 n2 => ?_)
                have T2 : cT x (qnx x.1 x.2.1 p) σ2 := cT_sg T1 g2
                have F2 : cSf σ σ2 := cSf_sg F1 g2
                have N2 : σ2 102 4 = (σ 102 4) + 1 := n2.trans N1
                have y2 : σ2 7 4 = σ1 7 4 := congrFun (g2 7 (by decide)) 4
                refine And.intro (show 0 ≤ 1 ∧ 1 ≤ 1 from by omega) ?_
                have hB := (cT_bg hT).2.2.1 (by omega)
                exact h1 (qnx x.1 x.2.1 p) σ2 T2 F2 ⟨by rw [N2]; exact Int.le_refl _, by rw [N2]; exact hon⟩ (fun b L => by rw [N2]; exact (qN_og hT hn (qop_l (by omega) hlim)).trans qN_d)
              · refine And.intro (show ((0 : Int) ≤ r9 ∧ r9 ≤ 29) ∧ 0 ≤ 0 ∧ 0 ≤ 6299 from by omega) (fun (σ2 : vS) g2 n2 => ?_)
                have T2 : cT x (qnx x.1 x.2.1 p) σ2 := cT_sg T1 g2
                have F2 : cSf σ σ2 := cSf_sg F1 g2
                have N2 : σ2 102 4 = (σ 102 4) + 1 := n2.trans N1
                have y2 : σ2 7 4 = σ1 7 4 := congrFun (g2 7 (by decide)) 4
                refine And.intro (show 0 ≤ 1 ∧ 1 ≤ 1 from by omega) ?_
                have hB := (cT_bg hT).2.2.1 (by omega)
                exact h1 (qnx x.1 x.2.1 p) σ2 T2 F2 ⟨by rw [N2]; exact Int.le_refl _, by rw [N2]; exact hon⟩ (fun b L => by rw [N2]; exact (qN_og hT hn (qop_l (by omega) hlim)).trans qN_d)
              · have hB : qbeg x p = 2 := by have := (cT_bg hT).2.2.1 (by omega); omega
                obtain ⟨r1, r2, r3⟩ := qof_b (x := x) (S := S) (p := (qnx x.1 x.2.1 p)) hS.2 (k := 2) (by omega)
                have eM : ∀ (b : Int) (L : List Int), qop x S.2.2 (S.2.1 0) (S.2.1 1) d b L (σ 102 4) p = if (qofn x S.2.2 (S.2.1 0) (S.2.1 1) 2 (qnx x.1 x.2.1 p)) < 0 then (-(qofn x S.2.2 (S.2.1 0) (S.2.1 1) 2 (qnx x.1 x.2.1 p)), ((qnx x.1 x.2.1 p), true, d, b, L, σ 102 4 + 1)) else (0, (qnx x.1 x.2.1 (qnx x.1 x.2.1 p), true, d, b, L, σ 102 4 + 1)) := fun b L => by
                  have e := qop_m (x := x) (nm := S.2.2) (mh := S.2.1 0) (mo := S.2.1 1) (d := d) (b := b) (L := L) (o := σ 102 4) (p := p) (by omega) hlim
                  rw [hB] at e
                  exact e
                refine ⟨by omega, x, ((qnx x.1 x.2.1 p), S.2), S.2.1 1, T1, (cSn_f hS F1).1, hS.2, fun q => absurd q (by decide), fun _ => ⟨rfl, fun c2 (σ2 : vS) fl2 g2 => ?_, fun c2 => ?_⟩, fun q => absurd q (by decide)⟩
                · clear r3
                  have c2 : (qofn x S.2.2 (S.2.1 0) (S.2.1 1) 2 (qnx x.1 x.2.1 p)) < 0 := c2
                  have fl2 : cFl x (-(qofn x S.2.2 (S.2.1 0) (S.2.1 1) 2 (qnx x.1 x.2.1 p))) (qnx x.1 x.2.1 p) σ2 := fl2
                  have F2 : cSf σ σ2 := cSf_cg F1 g2
                  refine And.intro (fun (q : ¬ (-1) = (-1)) => absurd q (by decide)) (fun _ => ?_)
                  refine And.intro (show 0 ≤ 0 ∧ 0 ≤ 1 from by omega) ?_
                  refine And.intro (show 0 ≤ 0 ∧ 0 ≤ 1 from by omega) ?_
                  exact h0 (-(qofn x S.2.2 (S.2.1 0) (S.2.1 1) 2 (qnx x.1 x.2.1 p))) (qnx x.1 x.2.1 p) (σ 102 4 + 1) σ2 (by omega) (fun b L => qN_of ((eM b L).trans (if_pos c2)) (by omega)) fl2 F2
                · have c2 : 0 ≤ (qofn x S.2.2 (S.2.1 0) (S.2.1 1) 2 (qnx x.1 x.2.1 p)) := c2
                  have kq2 := r3 c2
                  clear r3
                  have eR26 : qlk x 6 (S.2.1 1) ((qnx x.1 x.2.1 p), S.2) = (qofn x S.2.2 (S.2.1 0) (S.2.1 1) 2 (qnx x.1 x.2.1 p)) := rfl
                  rw [eR26]
                  refine And.intro (fun (c27 : ¬ ((qofn x S.2.2 (S.2.1 0) (S.2.1 1) 2 (qnx x.1 x.2.1 p))) = (-1)) => ?_) (fun (c28 : ((qofn x S.2.2 (S.2.1 0) (S.2.1 1) 2 (qnx x.1 x.2.1 p))) = (-1)) => ?_)
                  · refine And.intro (show ((0 : Int) ≤ r9 ∧ r9 ≤ 29) ∧ 0 ≤ ((qofn x S.2.2 (S.2.1 0) (S.2.1 1) 2 (qnx x.1 x.2.1 p))) ∧ ((qofn x S.2.2 (S.2.1 0) (S.2.1 1) 2 (qnx x.1 x.2.1 p))) ≤ 6299 from by omega) (fun (σ2 : vS) g2 n2 => ?_)
                    have T2 : cT x (qnx x.1 x.2.1 p) σ2 := cT_sg T1 g2
                    have F2 : cSf σ σ2 := cSf_sg F1 g2
                    have N2 : σ2 102 4 = (σ 102 4) + 1 := n2.trans N1
                    have y2 : σ2 7 4 = σ1 7 4 := congrFun (g2 7 (by decide)) 4
                    have hk3 : ¬ qkd x.1 x.2.1 x.2.2 (qnx x.1 x.2.1 p) = 0 ∧ ¬ qkd x.1 x.2.1 x.2.2 (qnx x.1 x.2.1 p) = 4 := by first | exact (cT_nks T2).1 (by omega) | omega
                    refine And.intro (cT_nx ⟨T2, hk3⟩) (fun s3 (σ3 : vS) ha3 f3 t3_ => ?_)
                    have T3 : cT x (qnx x.1 x.2.1 (qnx x.1 x.2.1 p)) σ3 := cT_next T2 hk3 ha3 f3 t3_
                    have F3 : cSf σ σ3 := cSf_cg F2 (cg_of f3)
                    clear ha3
                    have N3 : σ3 102 4 = (σ 102 4) + 1 := (congrFun ((cg_of f3).1 102 (by decide)) 4).trans N2
                    refine And.intro (show 0 ≤ 1 ∧ 1 ≤ 1 from by omega) ?_
                    refine And.intro (show 0 ≤ 1 ∧ 1 ≤ 1 from by omega) ?_
                    exact h1 (qnx x.1 x.2.1 (qnx x.1 x.2.1 p)) σ3 T3 F3 ⟨by rw [N3]; exact Int.le_refl _, by rw [N3]; exact hon⟩ (fun b L => by rw [N3]; exact (qN_og hT hn ((eM b L).trans (if_neg (by omega)))).trans qN_d)
                  · refine And.intro (show 0 ≤ 0 ∧ 0 ≤ 1 from by omega) ?_
                    refine And.intro (show 0 ≤ 0 ∧ 0 ≤ 1 from by omega) ?_
                    exfalso; omega
              · have hB : qbeg x p = 3 := by have := (cT_bg hT).2.2.1 (by omega); omega
                obtain ⟨r1, r2, r3⟩ := qof_b (x := x) (S := S) (p := (qnx x.1 x.2.1 p)) hS.2 (k := 3) (by omega)
                have eM : ∀ (b : Int) (L : List Int), qop x S.2.2 (S.2.1 0) (S.2.1 1) d b L (σ 102 4) p = if (qofn x S.2.2 (S.2.1 0) (S.2.1 1) 3 (qnx x.1 x.2.1 p)) < 0 then (-(qofn x S.2.2 (S.2.1 0) (S.2.1 1) 3 (qnx x.1 x.2.1 p)), ((qnx x.1 x.2.1 p), true, d, b, L, σ 102 4 + 1)) else (0, (qnx x.1 x.2.1 (qnx x.1 x.2.1 p), true, d, b, L, σ 102 4 + 1)) := fun b L => by
                  have e := qop_m (x := x) (nm := S.2.2) (mh := S.2.1 0) (mo := S.2.1 1) (d := d) (b := b) (L := L) (o := σ 102 4) (p := p) (by omega) hlim
                  rw [hB] at e
                  exact e
                refine ⟨by omega, x, ((qnx x.1 x.2.1 p), S.2), S.2.1 0, T1, (cSn_f hS F1).1, hS.2, fun _ => ⟨rfl, fun c2 (σ2 : vS) fl2 g2 => ?_, fun c2 => ?_⟩, fun q => absurd q (by decide), fun q => absurd q (by decide)⟩
                · clear r3
                  have c2 : (qofn x S.2.2 (S.2.1 0) (S.2.1 1) 3 (qnx x.1 x.2.1 p)) < 0 := c2
                  have fl2 : cFl x (-(qofn x S.2.2 (S.2.1 0) (S.2.1 1) 3 (qnx x.1 x.2.1 p))) (qnx x.1 x.2.1 p) σ2 := fl2
                  have F2 : cSf σ σ2 := cSf_cg F1 g2
                  refine And.intro (fun (q : ¬ (-1) = (-1)) => absurd q (by decide)) (fun _ => ?_)
                  refine And.intro (show 0 ≤ 0 ∧ 0 ≤ 1 from by omega) ?_
                  refine And.intro (show 0 ≤ 0 ∧ 0 ≤ 1 from by omega) ?_
                  exact h0 (-(qofn x S.2.2 (S.2.1 0) (S.2.1 1) 3 (qnx x.1 x.2.1 p))) (qnx x.1 x.2.1 p) (σ 102 4 + 1) σ2 (by omega) (fun b L => qN_of ((eM b L).trans (if_pos c2)) (by omega)) fl2 F2
                · have c2 : 0 ≤ (qofn x S.2.2 (S.2.1 0) (S.2.1 1) 3 (qnx x.1 x.2.1 p)) := c2
                  have kq2 := r3 c2
                  clear r3
                  have eR29 : qlk x 0 (S.2.1 0) ((qnx x.1 x.2.1 p), S.2) = (qofn x S.2.2 (S.2.1 0) (S.2.1 1) 3 (qnx x.1 x.2.1 p)) := rfl
                  rw [eR29]
                  refine And.intro (fun (c30 : ¬ ((qofn x S.2.2 (S.2.1 0) (S.2.1 1) 3 (qnx x.1 x.2.1 p))) = (-1)) => ?_) (fun (c31 : ((qofn x S.2.2 (S.2.1 0) (S.2.1 1) 3 (qnx x.1 x.2.1 p))) = (-1)) => ?_)
                  · refine And.intro (show ((0 : Int) ≤ r9 ∧ r9 ≤ 29) ∧ 0 ≤ ((qofn x S.2.2 (S.2.1 0) (S.2.1 1) 3 (qnx x.1 x.2.1 p))) ∧ ((qofn x S.2.2 (S.2.1 0) (S.2.1 1) 3 (qnx x.1 x.2.1 p))) ≤ 6299 from by omega) (fun (σ2 : vS) g2 n2 => ?_)
                    have T2 : cT x (qnx x.1 x.2.1 p) σ2 := cT_sg T1 g2
                    have F2 : cSf σ σ2 := cSf_sg F1 g2
                    have N2 : σ2 102 4 = (σ 102 4) + 1 := n2.trans N1
                    have y2 : σ2 7 4 = σ1 7 4 := congrFun (g2 7 (by decide)) 4
                    have hk3 : ¬ qkd x.1 x.2.1 x.2.2 (qnx x.1 x.2.1 p) = 0 ∧ ¬ qkd x.1 x.2.1 x.2.2 (qnx x.1 x.2.1 p) = 4 := by first | exact (cT_nks T2).1 (by omega) | omega
                    refine And.intro (cT_nx ⟨T2, hk3⟩) (fun s3 (σ3 : vS) ha3 f3 t3_ => ?_)
                    have T3 : cT x (qnx x.1 x.2.1 (qnx x.1 x.2.1 p)) σ3 := cT_next T2 hk3 ha3 f3 t3_
                    have F3 : cSf σ σ3 := cSf_cg F2 (cg_of f3)
                    clear ha3
                    have N3 : σ3 102 4 = (σ 102 4) + 1 := (congrFun ((cg_of f3).1 102 (by decide)) 4).trans N2
                    refine And.intro (show 0 ≤ 1 ∧ 1 ≤ 1 from by omega) ?_
                    refine And.intro (show 0 ≤ 1 ∧ 1 ≤ 1 from by omega) ?_
                    exact h1 (qnx x.1 x.2.1 (qnx x.1 x.2.1 p)) σ3 T3 F3 ⟨by rw [N3]; exact Int.le_refl _, by rw [N3]; exact hon⟩ (fun b L => by rw [N3]; exact (qN_og hT hn ((eM b L).trans (if_neg (by omega)))).trans qN_d)
                  · refine And.intro (show 0 ≤ 0 ∧ 0 ≤ 1 from by omega) ?_
                    refine And.intro (show 0 ≤ 0 ∧ 0 ≤ 1 from by omega) ?_
                    exfalso; omega
              · refine fun z (t32 : (z = 1 ∧ σ1 7 4 = 5 ∧ σ1 7 6 = 60) ∨ (z = 0 ∧ ¬ (σ1 7 4 = 5 ∧ σ1 7 6 = 60))) => ?_
                rcases t32 with ⟨rfl, t32⟩ | ⟨rfl, t32⟩
                · refine And.intro (fun _ => ?_) (fun (q : 1 = 0) => absurd q (by decide))
                  have hk2 : ¬ qkd x.1 x.2.1 x.2.2 (qnx x.1 x.2.1 p) = 0 ∧ ¬ qkd x.1 x.2.1 x.2.2 (qnx x.1 x.2.1 p) = 4 := by first | exact (cT_nks T1).1 (by omega) | omega
                  refine And.intro (cT_nx ⟨T1, hk2⟩) (fun s2 (σ2 : vS) ha2 f2 t2_ => ?_)
                  have T2 : cT x (qnx x.1 x.2.1 (qnx x.1 x.2.1 p)) σ2 := cT_next T1 hk2 ha2 f2 t2_
                  have F2 : cSf σ σ2 := cSf_cg F1 (cg_of f2)
                  clear ha2
                  have N2 : σ2 102 4 = (σ 102 4) + 1 := (congrFun ((cg_of f2).1 102 (by decide)) 4).trans N1
                  have vu33 := cT_v T2
                  refine ⟨(cT_fl T2 (by decide : (0 : Int) ≤ 1 ∧ (1 : Int) ≤ 4)).2, fun cu33 => ?_, fun cu33 du33 => ?_, fun cu33 du33 eu33 => ?_⟩
                  · refine And.intro (fun (q : ¬ (-1) = (-1)) => absurd q (by decide)) (fun _ => ?_)
                    refine And.intro (show 0 ≤ 0 ∧ 0 ≤ 1 from by omega) ?_
                    refine And.intro (show 0 ≤ 0 ∧ 0 ≤ 1 from by omega) ?_
                    have hB := (cT_bg hT).2.2.1 (by omega)
                    have e3 : qsg3 x (qnx x.1 x.2.1 p) = true := (cT_s3 T1).mpr (by omega)
                    have e4 : ¬ qkd x.1 x.2.1 x.2.2 (qnx x.1 x.2.1 (qnx x.1 x.2.1 p)) = 2 := fun q => cu33 ((cT_nks T2).2.1.mp q)
                    exact h0 1 (qnx x.1 x.2.1 (qnx x.1 x.2.1 p)) (σ 102 4 + 1) _ (by decide) (fun b L => qN_of ((qop_s (by omega) hlim).trans ((if_pos e3).trans (if_neg e4))) (by decide)) (cFl_of T2) (cSf_cg F2 cg_fl)
                  · exfalso; have := vu33 cu33; omega
                  · have wu33 := vu33 cu33
                    clear vu33 du33 eu33
                    refine And.intro (fun (c34 : ¬ (σ2 7 6) = (-1)) => ?_) (fun (c35 : (σ2 7 6) = (-1)) => ?_)
                    · refine And.intro (show -2147483648 ≤ ((σ1 7 6) * 100) ∧ ((σ1 7 6) * 100) ≤ 2147483647 from by omega) ?_
                      refine And.intro (show -2147483648 ≤ (((σ1 7 6) * 100) + (σ2 7 6)) ∧ (((σ1 7 6) * 100) + (σ2 7 6)) ≤ 2147483647 from by omega) ?_
                      refine And.intro (show ((0 : Int) ≤ r9 ∧ r9 ≤ 29) ∧ 0 ≤ (((σ1 7 6) * 100) + (σ2 7 6)) ∧ (((σ1 7 6) * 100) + (σ2 7 6)) ≤ 6299 from by omega) (fun (σ3 : vS) g3 n3 => ?_)
                      have T3 : cT x (qnx x.1 x.2.1 (qnx x.1 x.2.1 p)) σ3 := cT_sg T2 g3
                      have F3 : cSf σ σ3 := cSf_sg F2 g3
                      have N3 : σ3 102 4 = (σ 102 4) + 1 := n3.trans N2
                      have y3 : σ3 7 4 = σ2 7 4 := congrFun (g3 7 (by decide)) 4
                      have hk4 : ¬ qkd x.1 x.2.1 x.2.2 (qnx x.1 x.2.1 (qnx x.1 x.2.1 p)) = 0 ∧ ¬ qkd x.1 x.2.1 x.2.2 (qnx x.1 x.2.1 (qnx x.1 x.2.1 p)) = 4 := by first | exact (cT_nks T3).1 (by omega) | omega
                      refine And.intro (cT_nx ⟨T3, hk4⟩) (fun s4 (σ4 : vS) ha4 f4 t4_ => ?_)
                      have T4 : cT x (qnx x.1 x.2.1 (qnx x.1 x.2.1 (qnx x.1 x.2.1 p))) σ4 := cT_next T3 hk4 ha4 f4 t4_
                      have F4 : cSf σ σ4 := cSf_cg F3 (cg_of f4)
                      clear ha4
                      have N4 : σ4 102 4 = (σ 102 4) + 1 := (congrFun ((cg_of f4).1 102 (by decide)) 4).trans N3
                      refine And.intro (show 0 ≤ 1 ∧ 1 ≤ 1 from by omega) ?_
                      refine And.intro (show 0 ≤ 1 ∧ 1 ≤ 1 from by omega) ?_
                      have hB := (cT_bg hT).2.2.1 (by omega)
                      have e3 : qsg3 x (qnx x.1 x.2.1 p) = true := (cT_s3 T1).mpr (by omega)
                      have e4 : qkd x.1 x.2.1 x.2.2 (qnx x.1 x.2.1 (qnx x.1 x.2.1 p)) = 2 := (cT_nks T2).2.1.mpr cu33
                      exact h1 (qnx x.1 x.2.1 (qnx x.1 x.2.1 (qnx x.1 x.2.1 p))) σ4 T4 F4 ⟨by rw [N4]; exact Int.le_refl _, by rw [N4]; exact hon⟩ (fun b L => by rw [N4]; exact (qN_og hT hn ((qop_s (by omega) hlim).trans ((if_pos e3).trans (if_pos e4)))).trans qN_d)
                    · refine And.intro (show 0 ≤ 0 ∧ 0 ≤ 1 from by omega) ?_
                      refine And.intro (show 0 ≤ 0 ∧ 0 ≤ 1 from by omega) ?_
                      exfalso; omega
                · refine And.intro (fun (q : ¬ 0 = 0) => absurd q (by decide)) (fun _ => ?_)
                  refine fun z (t36 : (z = 1 ∧ σ1 7 4 = 5 ∧ σ1 7 6 = 61) ∨ (z = 0 ∧ ¬ (σ1 7 4 = 5 ∧ σ1 7 6 = 61))) => ?_
                  rcases t36 with ⟨rfl, t36⟩ | ⟨rfl, t36⟩
                  · clear t32
                    refine And.intro (fun _ => ?_) (fun (q : 1 = 0) => absurd q (by decide))
                    have hk2 : ¬ qkd x.1 x.2.1 x.2.2 (qnx x.1 x.2.1 p) = 0 ∧ ¬ qkd x.1 x.2.1 x.2.2 (qnx x.1 x.2.1 p) = 4 := by first | exact (cT_nks T1).1 (by omega) | omega
                    refine And.intro (cT_nx ⟨T1, hk2⟩) (fun s2 (σ2 : vS) ha2 f2 t2_ => ?_)
                    have T2 : cT x (qnx x.1 x.2.1 (qnx x.1 x.2.1 p)) σ2 := cT_next T1 hk2 ha2 f2 t2_
                    have F2 : cSf σ σ2 := cSf_cg F1 (cg_of f2)
                    clear ha2
                    have N2 : σ2 102 4 = (σ 102 4) + 1 := (congrFun ((cg_of f2).1 102 (by decide)) 4).trans N1
                    have vu37 := cT_v T2
                    refine ⟨(cT_fl T2 (by decide : (0 : Int) ≤ 1 ∧ (1 : Int) ≤ 4)).2, fun cu37 => ?_, fun cu37 du37 => ?_, fun cu37 du37 eu37 => ?_⟩
                    · refine And.intro (fun (q : ¬ (-1) = (-1)) => absurd q (by decide)) (fun _ => ?_)
                      refine And.intro (show 0 ≤ 0 ∧ 0 ≤ 1 from by omega) ?_
                      refine And.intro (show 0 ≤ 0 ∧ 0 ≤ 1 from by omega) ?_
                      have hB := (cT_bg hT).2.2.1 (by omega)
                      have e3 : qsg3 x (qnx x.1 x.2.1 p) = true := (cT_s3 T1).mpr (by omega)
                      have e4 : ¬ qkd x.1 x.2.1 x.2.2 (qnx x.1 x.2.1 (qnx x.1 x.2.1 p)) = 2 := fun q => cu37 ((cT_nks T2).2.1.mp q)
                      exact h0 1 (qnx x.1 x.2.1 (qnx x.1 x.2.1 p)) (σ 102 4 + 1) _ (by decide) (fun b L => qN_of ((qop_s (by omega) hlim).trans ((if_pos e3).trans (if_neg e4))) (by decide)) (cFl_of T2) (cSf_cg F2 cg_fl)
                    · exfalso; have := vu37 cu37; omega
                    · have wu37 := vu37 cu37
                      clear vu37 du37 eu37
                      refine And.intro (fun (c38 : ¬ (σ2 7 6) = (-1)) => ?_) (fun (c39 : (σ2 7 6) = (-1)) => ?_)
                      · refine And.intro (show -2147483648 ≤ ((σ1 7 6) * 100) ∧ ((σ1 7 6) * 100) ≤ 2147483647 from by omega) ?_
                        refine And.intro (show -2147483648 ≤ (((σ1 7 6) * 100) + (σ2 7 6)) ∧ (((σ1 7 6) * 100) + (σ2 7 6)) ≤ 2147483647 from by omega) ?_
                        refine And.intro (show ((0 : Int) ≤ r9 ∧ r9 ≤ 29) ∧ 0 ≤ (((σ1 7 6) * 100) + (σ2 7 6)) ∧ (((σ1 7 6) * 100) + (σ2 7 6)) ≤ 6299 from by omega) (fun (σ3 : vS) g3 n3 => ?_)
                        have T3 : cT x (qnx x.1 x.2.1 (qnx x.1 x.2.1 p)) σ3 := cT_sg T2 g3
                        have F3 : cSf σ σ3 := cSf_sg F2 g3
                        have N3 : σ3 102 4 = (σ 102 4) + 1 := n3.trans N2
                        have y3 : σ3 7 4 = σ2 7 4 := congrFun (g3 7 (by decide)) 4
                        have hk4 : ¬ qkd x.1 x.2.1 x.2.2 (qnx x.1 x.2.1 (qnx x.1 x.2.1 p)) = 0 ∧ ¬ qkd x.1 x.2.1 x.2.2 (qnx x.1 x.2.1 (qnx x.1 x.2.1 p)) = 4 := by first | exact (cT_nks T3).1 (by omega) | omega
                        refine And.intro (cT_nx ⟨T3, hk4⟩) (fun s4 (σ4 : vS) ha4 f4 t4_ => ?_)
                        have T4 : cT x (qnx x.1 x.2.1 (qnx x.1 x.2.1 (qnx x.1 x.2.1 p))) σ4 := cT_next T3 hk4 ha4 f4 t4_
                        have F4 : cSf σ σ4 := cSf_cg F3 (cg_of f4)
                        clear ha4
                        have N4 : σ4 102 4 = (σ 102 4) + 1 := (congrFun ((cg_of f4).1 102 (by decide)) 4).trans N3
                        refine And.intro (show 0 ≤ 1 ∧ 1 ≤ 1 from by omega) ?_
                        refine And.intro (show 0 ≤ 1 ∧ 1 ≤ 1 from by omega) ?_
                        have hB := (cT_bg hT).2.2.1 (by omega)
                        have e3 : qsg3 x (qnx x.1 x.2.1 p) = true := (cT_s3 T1).mpr (by omega)
                        have e4 : qkd x.1 x.2.1 x.2.2 (qnx x.1 x.2.1 (qnx x.1 x.2.1 p)) = 2 := (cT_nks T2).2.1.mpr cu37
                        exact h1 (qnx x.1 x.2.1 (qnx x.1 x.2.1 (qnx x.1 x.2.1 p))) σ4 T4 F4 ⟨by rw [N4]; exact Int.le_refl _, by rw [N4]; exact hon⟩ (fun b L => by rw [N4]; exact (qN_og hT hn ((qop_s (by omega) hlim).trans ((if_pos e3).trans (if_pos e4)))).trans qN_d)
                      · refine And.intro (show 0 ≤ 0 ∧ 0 ≤ 1 from by omega) ?_
                        refine And.intro (show 0 ≤ 0 ∧ 0 ≤ 1 from by omega) ?_
                        exfalso; omega
                  · refine And.intro (fun (q : ¬ 0 = 0) => absurd q (by decide)) (fun _ => ?_)
                    refine fun z (t40 : (z = 1 ∧ σ1 7 4 = 5 ∧ σ1 7 6 = 62) ∨ (z = 0 ∧ ¬ (σ1 7 4 = 5 ∧ σ1 7 6 = 62))) => ?_
                    rcases t40 with ⟨rfl, t40⟩ | ⟨rfl, t40⟩
                    · clear t32 t36
                      refine And.intro (fun _ => ?_) (fun (q : 1 = 0) => absurd q (by decide))
                      have hk2 : ¬ qkd x.1 x.2.1 x.2.2 (qnx x.1 x.2.1 p) = 0 ∧ ¬ qkd x.1 x.2.1 x.2.2 (qnx x.1 x.2.1 p) = 4 := by first | exact (cT_nks T1).1 (by omega) | omega
                      refine And.intro (cT_nx ⟨T1, hk2⟩) (fun s2 (σ2 : vS) ha2 f2 t2_ => ?_)
                      have T2 : cT x (qnx x.1 x.2.1 (qnx x.1 x.2.1 p)) σ2 := cT_next T1 hk2 ha2 f2 t2_
                      have F2 : cSf σ σ2 := cSf_cg F1 (cg_of f2)
                      clear ha2
                      have N2 : σ2 102 4 = (σ 102 4) + 1 := (congrFun ((cg_of f2).1 102 (by decide)) 4).trans N1
                      have vu41 := cT_v T2
                      refine ⟨(cT_fl T2 (by decide : (0 : Int) ≤ 1 ∧ (1 : Int) ≤ 4)).2, fun cu41 => ?_, fun cu41 du41 => ?_, fun cu41 du41 eu41 => ?_⟩
                      · refine And.intro (fun (q : ¬ (-1) = (-1)) => absurd q (by decide)) (fun _ => ?_)
                        refine And.intro (show 0 ≤ 0 ∧ 0 ≤ 1 from by omega) ?_
                        refine And.intro (show 0 ≤ 0 ∧ 0 ≤ 1 from by omega) ?_
                        have hB := (cT_bg hT).2.2.1 (by omega)
                        have e3 : qsg3 x (qnx x.1 x.2.1 p) = true := (cT_s3 T1).mpr (by omega)
                        have e4 : ¬ qkd x.1 x.2.1 x.2.2 (qnx x.1 x.2.1 (qnx x.1 x.2.1 p)) = 2 := fun q => cu41 ((cT_nks T2).2.1.mp q)
                        exact h0 1 (qnx x.1 x.2.1 (qnx x.1 x.2.1 p)) (σ 102 4 + 1) _ (by decide) (fun b L => qN_of ((qop_s (by omega) hlim).trans ((if_pos e3).trans (if_neg e4))) (by decide)) (cFl_of T2) (cSf_cg F2 cg_fl)
                      · exfalso; have := vu41 cu41; omega
                      · have wu41 := vu41 cu41
                        clear vu41 du41 eu41
                        refine And.intro (fun (c42 : ¬ (σ2 7 6) = (-1)) => ?_) (fun (c43 : (σ2 7 6) = (-1)) => ?_)
                        · refine And.intro (show -2147483648 ≤ ((σ1 7 6) * 100) ∧ ((σ1 7 6) * 100) ≤ 2147483647 from by omega) ?_
                          refine And.intro (show -2147483648 ≤ (((σ1 7 6) * 100) + (σ2 7 6)) ∧ (((σ1 7 6) * 100) + (σ2 7 6)) ≤ 2147483647 from by omega) ?_
                          refine And.intro (show ((0 : Int) ≤ r9 ∧ r9 ≤ 29) ∧ 0 ≤ (((σ1 7 6) * 100) + (σ2 7 6)) ∧ (((σ1 7 6) * 100) + (σ2 7 6)) ≤ 6299 from by omega) (fun (σ3 : vS) g3 n3 => ?_)
                          have T3 : cT x (qnx x.1 x.2.1 (qnx x.1 x.2.1 p)) σ3 := cT_sg T2 g3
                          have F3 : cSf σ σ3 := cSf_sg F2 g3
                          have N3 : σ3 102 4 = (σ 102 4) + 1 := n3.trans N2
                          have y3 : σ3 7 4 = σ2 7 4 := congrFun (g3 7 (by decide)) 4
                          have hk4 : ¬ qkd x.1 x.2.1 x.2.2 (qnx x.1 x.2.1 (qnx x.1 x.2.1 p)) = 0 ∧ ¬ qkd x.1 x.2.1 x.2.2 (qnx x.1 x.2.1 (qnx x.1 x.2.1 p)) = 4 := by first | exact (cT_nks T3).1 (by omega) | omega
                          refine And.intro (cT_nx ⟨T3, hk4⟩) (fun s4 (σ4 : vS) ha4 f4 t4_ => ?_)
                          have T4 : cT x (qnx x.1 x.2.1 (qnx x.1 x.2.1 (qnx x.1 x.2.1 p))) σ4 := cT_next T3 hk4 ha4 f4 t4_
                          have F4 : cSf σ σ4 := cSf_cg F3 (cg_of f4)
                          clear ha4
                          have N4 : σ4 102 4 = (σ 102 4) + 1 := (congrFun ((cg_of f4).1 102 (by decide)) 4).trans N3
                          refine And.intro (show 0 ≤ 1 ∧ 1 ≤ 1 from by omega) ?_
                          refine And.intro (show 0 ≤ 1 ∧ 1 ≤ 1 from by omega) ?_
                          have hB := (cT_bg hT).2.2.1 (by omega)
                          have e3 : qsg3 x (qnx x.1 x.2.1 p) = true := (cT_s3 T1).mpr (by omega)
                          have e4 : qkd x.1 x.2.1 x.2.2 (qnx x.1 x.2.1 (qnx x.1 x.2.1 p)) = 2 := (cT_nks T2).2.1.mpr cu41
                          exact h1 (qnx x.1 x.2.1 (qnx x.1 x.2.1 (qnx x.1 x.2.1 p))) σ4 T4 F4 ⟨by rw [N4]; exact Int.le_refl _, by rw [N4]; exact hon⟩ (fun b L => by rw [N4]; exact (qN_og hT hn ((qop_s (by omega) hlim).trans ((if_pos e3).trans (if_pos e4)))).trans qN_d)
                        · refine And.intro (show 0 ≤ 0 ∧ 0 ≤ 1 from by omega) ?_
                          refine And.intro (show 0 ≤ 0 ∧ 0 ≤ 1 from by omega) ?_
                          exfalso; omega
                    · refine And.intro (fun (q : ¬ 0 = 0) => absurd q (by decide)) (fun _ => ?_)
                      refine And.intro (cT_fl T1 (by omega)) ?_
                      refine And.intro (show 0 ≤ 0 ∧ 0 ≤ 1 from by omega) ?_
                      refine And.intro (show 0 ≤ 0 ∧ 0 ≤ 1 from by omega) ?_
                      have hB := (cT_bg hT).2.2.1 (by omega)
                      have e3 : ¬ qsg3 x (qnx x.1 x.2.1 p) = true := fun q => by have := (cT_s3 T1).mp q; omega
                      exact h0 1 (qnx x.1 x.2.1 p) (σ 102 4 + 1) _ (by decide) (fun b L => qN_of ((qop_s (by omega) hlim).trans (if_neg e3)) (by decide)) (cFl_of T1) (cSf_cg F1 cg_fl)
            · refine And.intro (cT_fl hT (by omega)) ?_
              refine And.intro (show 0 ≤ 0 ∧ 0 ≤ 1 from by omega) ?_
              have hB : ¬ qbeg x p = -1 := by
                by_cases e : σ 7 6 = 21
                · have := (cT_bg hT).2.1 (by omega); omega
                · have := (cT_bg hT).2.2.1 (by omega); omega
              exact h0 4 p (σ 102 4) _ (by decide) (fun b L => qN_of (qop_4 hB (by omega)) (by decide)) (cFl_of hT) (cSf_cg cSf_refl cg_fl)
        · refine And.intro (cT_fl hT (by omega)) ?_
          refine And.intro (show 0 ≤ 0 ∧ 0 ≤ 1 from by omega) ?_
          have hB : qbeg x p = -1 := (cT_bg hT).2.2.2 t1 (by omega)
          exact h0 1 p (σ 102 4) _ (by decide) (fun b L => qN_of (qop_1 hB) (by decide)) (cFl_of hT) (cSf_cg cSf_refl cg_fl)
  · exact absurd h id
theorem vt_52z_3 (X : zX gKX E) (B : zB E) (i55 : zOKR E md72 w gr_55_3 (vt55 3)) {d bo i : Int} (hK : K (some (.inl 0)) σ) : zGC E md72 w gr_52_3.1 15 [(0, .inr (.inl 102)), (1, .inr (.inl 7)), (2, .inr (.inl 93)), (3, .inl d), (4, .inl 0), (5, .inl bo), (6, .inl i)] σ K := by
  refine zbdC (fun hb => zgoR (⟨rfl, rfl, rfl⟩ : zalt gr_52_3 (gm_52, 8)) (⟨rfl, rfl, rfl⟩ : zalt gr_55_3 (gm_55, 7)) X B zOKR_no i55 (vLA_ok X B) (by decide) [] [(15, [0, 1, 2, 3, 4, 5, 6])] (fun m => Nat.beq m.2.2.2.2.2.2.length 59) (by decide +kernel) ?_)
  refine And.intro (fun _ => ?_) (fun (q : ¬ 0 = 0) => absurd q (by decide))
  refine And.intro (show 0 ≤ 0 ∧ 0 ≤ 1 from by omega) ?_
  exact hK
set_option maxRecDepth 16384 in
theorem vt_52l_3 (X : zX gKX E) (B : zB E) (i55 : zOKR E md72 w gr_55_3 (vt55 3)) {d o0 p0 : Int} {x : qX} {S : qS} {σ0 : vS} (hd : d = 3) (hS0 : cSn S σ0) (hn : x.2.1 ≤ 940) (h0 : ∀ (k p2 o2 : Int) (σ2 : vS), ¬ k = 0 → (∀ L : List Int, qN x S false d d L o0 p0 = (k, p2, o2)) → cFl x k p2 σ2 → cSf σ0 σ2 → K (some (.inl 0)) σ2) (h1 : ∀ (p2 : Int) (σ2 : vS), cT x p2 σ2 → cSf σ0 σ2 → (o0 + 1 ≤ σ2 102 4 ∧ σ2 102 4 ≤ 20) → (∀ L : List Int, qN x S false d d L o0 p0 = qN x S true d d L (σ2 102 4) p2) → ¬ (qisw x p2 (qrw 20) = true ∨ qisw x p2 (qrw 19) = true) → K (some (.inl 1)) σ2) : ∀ (m : Nat) (bo i : Int) (σ : vS) (p : Int), 21 - i < (m : Int) → 0 ≤ i → (0 ≤ bo ∧ bo ≤ 1) → i + 1 ≤ σ 102 4 → cT x p σ → cSf σ0 σ → (o0 + 1 ≤ σ 102 4 ∧ σ 102 4 ≤ 20) → (∀ L : List Int, qN x S false d d L o0 p0 = qN x S true d d L (σ 102 4) p) → zGC E md72 w gr_52_3.1 15 [(0, .inr (.inl 102)), (1, .inr (.inl 7)), (2, .inr (.inl 93)), (3, .inl d), (4, .inl 1), (5, .inl bo), (6, .inl i)] σ K := by
  intro m
  induction m with
  | zero => intro bo i σ p h a c e; omega
  | succ m ih =>
    intro bo i σ p hm hi hbo hio hT hF ho hq
    have hS := cSn_f hS0 hF
    refine zbdC (fun hb => zgoR (⟨rfl, rfl, rfl⟩ : zalt gr_52_3 (gm_52, 8)) (⟨rfl, rfl, rfl⟩ : zalt gr_55_3 (gm_55, 7)) X B zOKR_no i55 (vLA_ok X B) (by decide) [] [(15, [0, 1, 2, 3, 4, 5, 6])] (fun m => Nat.beq m.2.2.2.2.2.2.length 59) (by decide +kernel) ?_)
    refine And.intro (fun (q : 1 = 0) => absurd q (by decide)) (fun _ => ?_)
    refine And.intro (fun (c1 : 20 < i) => ?_) (fun (c2 : i ≤ 20) => ?_)
    · refine And.intro (show 0 ≤ 0 ∧ 0 ≤ 1 from by omega) ?_
      exfalso; omega
    · refine fun (r3 : Int) (t4 : (σ 7 4 = 2 ∧ r3 = σ 7 6) ∨ (¬ σ 7 4 = 2 ∧ r3 = -1)) => ?_
      refine And.intro (fun (c5 : bo = 0) => ?_) (fun (c6 : ¬ bo = 0) => ?_)
      · refine And.intro (fun (c7 : r3 = 20) => ?_) (fun (c8 : ¬ r3 = 20) => ?_)
        · have hj : qisw x p (qrw 20) = true ∨ qisw x p (qrw 19) = true := by
            by_cases e : r3 = 20
            · exact Or.inl ((cT_kws hT (by decide)).mpr (by omega))
            · exact Or.inr ((cT_kws hT (by decide)).mpr (by omega))
          have eJ : ∀ L : List Int, qN x S true d d L (σ 102 4) p = qN x S false d d L (σ 102 4) (qnx x.1 x.2.1 p) := fun L => qN_jn hT hn hj
          have hkj : qkd x.1 x.2.1 x.2.2 p = 1 := hj.elim qisw_k qisw_k
          have hk1 : ¬ qkd x.1 x.2.1 x.2.2 p = 0 ∧ ¬ qkd x.1 x.2.1 x.2.2 p = 4 := by first | exact (cT_nks hT).1 (by omega) | omega
          refine And.intro (cT_nx ⟨hT, hk1⟩) (fun s1 (σ1 : vS) ha1 f1 t1_ => ?_)
          have T1 : cT x (qnx x.1 x.2.1 p) σ1 := cT_next hT hk1 ha1 f1 t1_
          have F1 : cSf σ σ1 := cSf_cg cSf_refl (cg_of f1)
          clear ha1
          have N1 : σ1 102 4 = σ 102 4 := congrFun ((cg_of f1).1 102 (by decide)) 4
          refine ⟨show d = 3 from by omega, x, (qnx x.1 x.2.1 p), S, ⟨T1, cSn_f hS F1, hn⟩, fun k2 p2 o2 (σ2 : vS) hk2 (q2 : (∀ (b : Int) (L : List Int), qN x S false d b L (σ1 102 4) (qnx x.1 x.2.1 p) = (k2, p2, o2))) fl2 g2 => ?_, fun p2 (σ2 : vS) (T2 : cT x p2 σ2) g2 m2 (q2 : (∀ (b : Int) (L : List Int), qN x S false d b L (σ1 102 4) (qnx x.1 x.2.1 p) = qN x S true b b L (σ2 102 4) p2)) => ?_⟩
          · rw [N1] at q2
            have F2 : cSf σ σ2 := cSf_tr F1 g2
            refine And.intro (fun (q : ¬ r3 = 20) => (by exfalso; omega)) (fun _ => ?_)
            refine And.intro (show ((0 : Int) ≤ 20 ∧ 20 ≤ 29) ∧ 0 ≤ 0 ∧ 0 ≤ 6299 from by omega) (fun (σ3 : vS) g3 n3 => ?_)
            have F3 : cSf σ σ3 := cSf_sg F2 g3
            have y3 : σ3 7 4 = σ2 7 4 := congrFun (g3 7 (by decide)) 4
            refine And.intro (show -2147483648 ≤ (i + 1) ∧ (i + 1) ≤ 2147483647 from by omega) ?_
            show zGC E md72 w gr_52_3.1 15 [(0, .inr (.inl 102)), (1, .inr (.inl 7)), (2, .inr (.inl 93)), (3, .inl d), (4, .inl 0), (5, .inl bo), (6, .inl (i + 1))] σ3 K
            exact vt_52z_3 X B i55 (h0 k2 p2 o2 σ3 hk2 (fun L => ((hq L).trans (eJ L)).trans (q2 d L)) (cFl_sg fl2 g3) (cSf_tr hF F3))
          · rw [N1] at q2 m2
            have F2 : cSf σ σ2 := cSf_tr F1 g2
            refine And.intro (fun (q : ¬ r3 = 20) => (by exfalso; omega)) (fun _ => ?_)
            refine And.intro (show ((0 : Int) ≤ 20 ∧ 20 ≤ 29) ∧ 0 ≤ 0 ∧ 0 ≤ 6299 from by omega) (fun (σ3 : vS) g3 n3 => ?_)
            have T3 : cT x p2 σ3 := cT_sg T2 g3
            have F3 : cSf σ σ3 := cSf_sg F2 g3
            have N3 : σ3 102 4 = σ2 102 4 := n3
            have y3 : σ3 7 4 = σ2 7 4 := congrFun (g3 7 (by decide)) 4
            refine And.intro (show -2147483648 ≤ (i + 1) ∧ (i + 1) ≤ 2147483647 from by omega) ?_
            show zGC E md72 w gr_52_3.1 15 [(0, .inr (.inl 102)), (1, .inr (.inl 7)), (2, .inr (.inl 93)), (3, .inl d), (4, .inl 1), (5, .inl bo), (6, .inl (i + 1))] σ3 K
            exact ih bo (i + 1) σ3 p2 (by omega) (by omega) (by omega) (by omega) T3 (cSf_tr hF F3) (by omega) (fun L => by rw [N3]; exact ((hq L).trans (eJ L)).trans (q2 d L))
        · refine And.intro (fun (c9 : r3 = 19) => ?_) (fun (c10 : ¬ r3 = 19) => ?_)
          · have hj : qisw x p (qrw 20) = true ∨ qisw x p (qrw 19) = true := by
              by_cases e : r3 = 20
              · exact Or.inl ((cT_kws hT (by decide)).mpr (by omega))
              · exact Or.inr ((cT_kws hT (by decide)).mpr (by omega))
            have eJ : ∀ L : List Int, qN x S true d d L (σ 102 4) p = qN x S false d d L (σ 102 4) (qnx x.1 x.2.1 p) := fun L => qN_jn hT hn hj
            have hkj : qkd x.1 x.2.1 x.2.2 p = 1 := hj.elim qisw_k qisw_k
            have hk1 : ¬ qkd x.1 x.2.1 x.2.2 p = 0 ∧ ¬ qkd x.1 x.2.1 x.2.2 p = 4 := by first | exact (cT_nks hT).1 (by omega) | omega
            refine And.intro (cT_nx ⟨hT, hk1⟩) (fun s1 (σ1 : vS) ha1 f1 t1_ => ?_)
            have T1 : cT x (qnx x.1 x.2.1 p) σ1 := cT_next hT hk1 ha1 f1 t1_
            have F1 : cSf σ σ1 := cSf_cg cSf_refl (cg_of f1)
            clear ha1
            have N1 : σ1 102 4 = σ 102 4 := congrFun ((cg_of f1).1 102 (by decide)) 4
            refine ⟨show d = 3 from by omega, x, (qnx x.1 x.2.1 p), S, ⟨T1, cSn_f hS F1, hn⟩, fun k2 p2 o2 (σ2 : vS) hk2 (q2 : (∀ (b : Int) (L : List Int), qN x S false d b L (σ1 102 4) (qnx x.1 x.2.1 p) = (k2, p2, o2))) fl2 g2 => ?_, fun p2 (σ2 : vS) (T2 : cT x p2 σ2) g2 m2 (q2 : (∀ (b : Int) (L : List Int), qN x S false d b L (σ1 102 4) (qnx x.1 x.2.1 p) = qN x S true b b L (σ2 102 4) p2)) => ?_⟩
            · rw [N1] at q2
              have F2 : cSf σ σ2 := cSf_tr F1 g2
              refine And.intro (fun _ => ?_) (fun (q : r3 = 20) => (by exfalso; omega))
              refine And.intro (show -2147483648 ≤ (i + 1) ∧ (i + 1) ≤ 2147483647 from by omega) ?_
              show zGC E md72 w gr_52_3.1 15 [(0, .inr (.inl 102)), (1, .inr (.inl 7)), (2, .inr (.inl 93)), (3, .inl d), (4, .inl 0), (5, .inl 1), (6, .inl (i + 1))] σ2 K
              exact vt_52z_3 X B i55 (h0 k2 p2 o2 σ2 hk2 (fun L => ((hq L).trans (eJ L)).trans (q2 d L)) fl2 (cSf_tr hF F2))
            · rw [N1] at q2 m2
              have F2 : cSf σ σ2 := cSf_tr F1 g2
              refine And.intro (fun _ => ?_) (fun (q : r3 = 20) => (by exfalso; omega))
              refine And.intro (show -2147483648 ≤ (i + 1) ∧ (i + 1) ≤ 2147483647 from by omega) ?_
              show zGC E md72 w gr_52_3.1 15 [(0, .inr (.inl 102)), (1, .inr (.inl 7)), (2, .inr (.inl 93)), (3, .inl d), (4, .inl 1), (5, .inl 1), (6, .inl (i + 1))] σ2 K
              exact ih 1 (i + 1) σ2 p2 (by omega) (by omega) (by omega) (by omega) T2 (cSf_tr hF F2) (by omega) (fun L => by exact ((hq L).trans (eJ L)).trans (q2 d L))
          · refine And.intro (show 0 ≤ 1 ∧ 1 ≤ 1 from by omega) ?_
            have hj : ¬ (qisw x p (qrw 20) = true ∨ qisw x p (qrw 19) = true) := fun q => q.elim (fun q => by have := (cT_kws hT (j := 20) (by decide)).mp q; omega) (fun q => by have := (cT_kws hT (j := 19) (by decide)).mp q; omega)
            exact h1 p σ hT (cSf_tr hF cSf_refl) (by omega) (fun L => by exact hq L) hj
      · refine And.intro (fun (c11 : r3 = 20) => ?_) (fun (c12 : ¬ r3 = 20) => ?_)
        · refine And.intro (fun _ => ?_) (fun (q : ¬ r3 = 20) => (by exfalso; omega))
          have hj : qisw x p (qrw 20) = true ∨ qisw x p (qrw 19) = true := by
            by_cases e : r3 = 20
            · exact Or.inl ((cT_kws hT (by decide)).mpr (by omega))
            · exact Or.inr ((cT_kws hT (by decide)).mpr (by omega))
          have eJ : ∀ L : List Int, qN x S true d d L (σ 102 4) p = qN x S false d d L (σ 102 4) (qnx x.1 x.2.1 p) := fun L => qN_jn hT hn hj
          have hkj : qkd x.1 x.2.1 x.2.2 p = 1 := hj.elim qisw_k qisw_k
          have hk1 : ¬ qkd x.1 x.2.1 x.2.2 p = 0 ∧ ¬ qkd x.1 x.2.1 x.2.2 p = 4 := by first | exact (cT_nks hT).1 (by omega) | omega
          refine And.intro (cT_nx ⟨hT, hk1⟩) (fun s1 (σ1 : vS) ha1 f1 t1_ => ?_)
          have T1 : cT x (qnx x.1 x.2.1 p) σ1 := cT_next hT hk1 ha1 f1 t1_
          have F1 : cSf σ σ1 := cSf_cg cSf_refl (cg_of f1)
          clear ha1
          have N1 : σ1 102 4 = σ 102 4 := congrFun ((cg_of f1).1 102 (by decide)) 4
          refine ⟨show d = 3 from by omega, x, (qnx x.1 x.2.1 p), S, ⟨T1, cSn_f hS F1, hn⟩, fun k2 p2 o2 (σ2 : vS) hk2 (q2 : (∀ (b : Int) (L : List Int), qN x S false d b L (σ1 102 4) (qnx x.1 x.2.1 p) = (k2, p2, o2))) fl2 g2 => ?_, fun p2 (σ2 : vS) (T2 : cT x p2 σ2) g2 m2 (q2 : (∀ (b : Int) (L : List Int), qN x S false d b L (σ1 102 4) (qnx x.1 x.2.1 p) = qN x S true b b L (σ2 102 4) p2)) => ?_⟩
          · rw [N1] at q2
            have F2 : cSf σ σ2 := cSf_tr F1 g2
            refine And.intro (fun (q : ¬ r3 = 20) => (by exfalso; omega)) (fun _ => ?_)
            refine And.intro (show ((0 : Int) ≤ 20 ∧ 20 ≤ 29) ∧ 0 ≤ 0 ∧ 0 ≤ 6299 from by omega) (fun (σ3 : vS) g3 n3 => ?_)
            have F3 : cSf σ σ3 := cSf_sg F2 g3
            have y3 : σ3 7 4 = σ2 7 4 := congrFun (g3 7 (by decide)) 4
            refine And.intro (show -2147483648 ≤ (i + 1) ∧ (i + 1) ≤ 2147483647 from by omega) ?_
            show zGC E md72 w gr_52_3.1 15 [(0, .inr (.inl 102)), (1, .inr (.inl 7)), (2, .inr (.inl 93)), (3, .inl d), (4, .inl 0), (5, .inl bo), (6, .inl (i + 1))] σ3 K
            exact vt_52z_3 X B i55 (h0 k2 p2 o2 σ3 hk2 (fun L => ((hq L).trans (eJ L)).trans (q2 d L)) (cFl_sg fl2 g3) (cSf_tr hF F3))
          · rw [N1] at q2 m2
            have F2 : cSf σ σ2 := cSf_tr F1 g2
            refine And.intro (fun (q : ¬ r3 = 20) => (by exfalso; omega)) (fun _ => ?_)
            refine And.intro (show ((0 : Int) ≤ 20 ∧ 20 ≤ 29) ∧ 0 ≤ 0 ∧ 0 ≤ 6299 from by omega) (fun (σ3 : vS) g3 n3 => ?_)
            have T3 : cT x p2 σ3 := cT_sg T2 g3
            have F3 : cSf σ σ3 := cSf_sg F2 g3
            have N3 : σ3 102 4 = σ2 102 4 := n3
            have y3 : σ3 7 4 = σ2 7 4 := congrFun (g3 7 (by decide)) 4
            refine And.intro (show -2147483648 ≤ (i + 1) ∧ (i + 1) ≤ 2147483647 from by omega) ?_
            show zGC E md72 w gr_52_3.1 15 [(0, .inr (.inl 102)), (1, .inr (.inl 7)), (2, .inr (.inl 93)), (3, .inl d), (4, .inl 1), (5, .inl bo), (6, .inl (i + 1))] σ3 K
            exact ih bo (i + 1) σ3 p2 (by omega) (by omega) (by omega) (by omega) T3 (cSf_tr hF F3) (by omega) (fun L => by rw [N3]; exact ((hq L).trans (eJ L)).trans (q2 d L))
        · refine And.intro (show ((0 : Int) ≤ 19 ∧ 19 ≤ 29) ∧ 0 ≤ 0 ∧ 0 ≤ 6299 from by omega) (fun (σ1 : vS) g1 n1 => ?_)
          have T1 : cT x p σ1 := cT_sg hT g1
          have F1 : cSf σ σ1 := cSf_sg cSf_refl g1
          have N1 : σ1 102 4 = σ 102 4 := n1
          have y1 : σ1 7 4 = σ 7 4 := congrFun (g1 7 (by decide)) 4
          refine And.intro (fun (c13 : r3 = 20) => ?_) (fun (c14 : ¬ r3 = 20) => ?_)
          · have hj : qisw x p (qrw 20) = true ∨ qisw x p (qrw 19) = true := by
              by_cases e : r3 = 20
              · exact Or.inl ((cT_kws hT (by decide)).mpr (by omega))
              · exact Or.inr ((cT_kws hT (by decide)).mpr (by omega))
            have eJ : ∀ L : List Int, qN x S true d d L (σ 102 4) p = qN x S false d d L (σ 102 4) (qnx x.1 x.2.1 p) := fun L => qN_jn hT hn hj
            have hkj : qkd x.1 x.2.1 x.2.2 p = 1 := hj.elim qisw_k qisw_k
            have hk2 : ¬ qkd x.1 x.2.1 x.2.2 p = 0 ∧ ¬ qkd x.1 x.2.1 x.2.2 p = 4 := by first | exact (cT_nks T1).1 (by omega) | omega
            refine And.intro (cT_nx ⟨T1, hk2⟩) (fun s2 (σ2 : vS) ha2 f2 t2_ => ?_)
            have T2 : cT x (qnx x.1 x.2.1 p) σ2 := cT_next T1 hk2 ha2 f2 t2_
            have F2 : cSf σ σ2 := cSf_cg F1 (cg_of f2)
            clear ha2
            have N2 : σ2 102 4 = σ 102 4 := (congrFun ((cg_of f2).1 102 (by decide)) 4).trans N1
            refine ⟨show d = 3 from by omega, x, (qnx x.1 x.2.1 p), S, ⟨T2, cSn_f hS F2, hn⟩, fun k3 p3 o3 (σ3 : vS) hk3 (q3 : (∀ (b : Int) (L : List Int), qN x S false d b L (σ2 102 4) (qnx x.1 x.2.1 p) = (k3, p3, o3))) fl3 g3 => ?_, fun p3 (σ3 : vS) (T3 : cT x p3 σ3) g3 m3 (q3 : (∀ (b : Int) (L : List Int), qN x S false d b L (σ2 102 4) (qnx x.1 x.2.1 p) = qN x S true b b L (σ3 102 4) p3)) => ?_⟩
            · rw [N2] at q3
              have F3 : cSf σ σ3 := cSf_tr F2 g3
              refine And.intro (fun (q : ¬ r3 = 20) => (by exfalso; omega)) (fun _ => ?_)
              refine And.intro (show ((0 : Int) ≤ 20 ∧ 20 ≤ 29) ∧ 0 ≤ 0 ∧ 0 ≤ 6299 from by omega) (fun (σ4 : vS) g4 n4 => ?_)
              have F4 : cSf σ σ4 := cSf_sg F3 g4
              have y4 : σ4 7 4 = σ3 7 4 := congrFun (g4 7 (by decide)) 4
              refine And.intro (show -2147483648 ≤ (i + 1) ∧ (i + 1) ≤ 2147483647 from by omega) ?_
              show zGC E md72 w gr_52_3.1 15 [(0, .inr (.inl 102)), (1, .inr (.inl 7)), (2, .inr (.inl 93)), (3, .inl d), (4, .inl 0), (5, .inl 0), (6, .inl (i + 1))] σ4 K
              exact vt_52z_3 X B i55 (h0 k3 p3 o3 σ4 hk3 (fun L => ((hq L).trans (eJ L)).trans (q3 d L)) (cFl_sg fl3 g4) (cSf_tr hF F4))
            · rw [N2] at q3 m3
              have F3 : cSf σ σ3 := cSf_tr F2 g3
              refine And.intro (fun (q : ¬ r3 = 20) => (by exfalso; omega)) (fun _ => ?_)
              refine And.intro (show ((0 : Int) ≤ 20 ∧ 20 ≤ 29) ∧ 0 ≤ 0 ∧ 0 ≤ 6299 from by omega) (fun (σ4 : vS) g4 n4 => ?_)
              have T4 : cT x p3 σ4 := cT_sg T3 g4
              have F4 : cSf σ σ4 := cSf_sg F3 g4
              have N4 : σ4 102 4 = σ3 102 4 := n4
              have y4 : σ4 7 4 = σ3 7 4 := congrFun (g4 7 (by decide)) 4
              refine And.intro (show -2147483648 ≤ (i + 1) ∧ (i + 1) ≤ 2147483647 from by omega) ?_
              show zGC E md72 w gr_52_3.1 15 [(0, .inr (.inl 102)), (1, .inr (.inl 7)), (2, .inr (.inl 93)), (3, .inl d), (4, .inl 1), (5, .inl 0), (6, .inl (i + 1))] σ4 K
              exact ih 0 (i + 1) σ4 p3 (by omega) (by omega) (by omega) (by omega) T4 (cSf_tr hF F4) (by omega) (fun L => by rw [N4]; exact ((hq L).trans (eJ L)).trans (q3 d L))
          · refine And.intro (fun (c15 : r3 = 19) => ?_) (fun (c16 : ¬ r3 = 19) => ?_)
            · have hj : qisw x p (qrw 20) = true ∨ qisw x p (qrw 19) = true := by
                by_cases e : r3 = 20
                · exact Or.inl ((cT_kws hT (by decide)).mpr (by omega))
                · exact Or.inr ((cT_kws hT (by decide)).mpr (by omega))
              have eJ : ∀ L : List Int, qN x S true d d L (σ 102 4) p = qN x S false d d L (σ 102 4) (qnx x.1 x.2.1 p) := fun L => qN_jn hT hn hj
              have hkj : qkd x.1 x.2.1 x.2.2 p = 1 := hj.elim qisw_k qisw_k
              have hk2 : ¬ qkd x.1 x.2.1 x.2.2 p = 0 ∧ ¬ qkd x.1 x.2.1 x.2.2 p = 4 := by first | exact (cT_nks T1).1 (by omega) | omega
              refine And.intro (cT_nx ⟨T1, hk2⟩) (fun s2 (σ2 : vS) ha2 f2 t2_ => ?_)
              have T2 : cT x (qnx x.1 x.2.1 p) σ2 := cT_next T1 hk2 ha2 f2 t2_
              have F2 : cSf σ σ2 := cSf_cg F1 (cg_of f2)
              clear ha2
              have N2 : σ2 102 4 = σ 102 4 := (congrFun ((cg_of f2).1 102 (by decide)) 4).trans N1
              refine ⟨show d = 3 from by omega, x, (qnx x.1 x.2.1 p), S, ⟨T2, cSn_f hS F2, hn⟩, fun k3 p3 o3 (σ3 : vS) hk3 (q3 : (∀ (b : Int) (L : List Int), qN x S false d b L (σ2 102 4) (qnx x.1 x.2.1 p) = (k3, p3, o3))) fl3 g3 => ?_, fun p3 (σ3 : vS) (T3 : cT x p3 σ3) g3 m3 (q3 : (∀ (b : Int) (L : List Int), qN x S false d b L (σ2 102 4) (qnx x.1 x.2.1 p) = qN x S true b b L (σ3 102 4) p3)) => ?_⟩
              · rw [N2] at q3
                have F3 : cSf σ σ3 := cSf_tr F2 g3
                refine And.intro (fun _ => ?_) (fun (q : r3 = 20) => (by exfalso; omega))
                refine And.intro (show -2147483648 ≤ (i + 1) ∧ (i + 1) ≤ 2147483647 from by omega) ?_
                show zGC E md72 w gr_52_3.1 15 [(0, .inr (.inl 102)), (1, .inr (.inl 7)), (2, .inr (.inl 93)), (3, .inl d), (4, .inl 0), (5, .inl 1), (6, .inl (i + 1))] σ3 K
                exact vt_52z_3 X B i55 (h0 k3 p3 o3 σ3 hk3 (fun L => ((hq L).trans (eJ L)).trans (q3 d L)) fl3 (cSf_tr hF F3))
              · rw [N2] at q3 m3
                have F3 : cSf σ σ3 := cSf_tr F2 g3
                refine And.intro (fun _ => ?_) (fun (q : r3 = 20) => (by exfalso; omega))
                refine And.intro (show -2147483648 ≤ (i + 1) ∧ (i + 1) ≤ 2147483647 from by omega) ?_
                show zGC E md72 w gr_52_3.1 15 [(0, .inr (.inl 102)), (1, .inr (.inl 7)), (2, .inr (.inl 93)), (3, .inl d), (4, .inl 1), (5, .inl 1), (6, .inl (i + 1))] σ3 K
                exact ih 1 (i + 1) σ3 p3 (by omega) (by omega) (by omega) (by omega) T3 (cSf_tr hF F3) (by omega) (fun L => by exact ((hq L).trans (eJ L)).trans (q3 d L))
            · refine And.intro (show 0 ≤ 1 ∧ 1 ≤ 1 from by omega) ?_
              have hj : ¬ (qisw x p (qrw 20) = true ∨ qisw x p (qrw 19) = true) := fun q => q.elim (fun q => by have := (cT_kws hT (j := 20) (by decide)).mp q; omega) (fun q => by have := (cT_kws hT (j := 19) (by decide)).mp q; omega)
              exact h1 p σ1 T1 (cSf_tr hF F1) (by omega) (fun L => by rw [N1]; exact hq L) hj
set_option maxRecDepth 16384 in
theorem vt_52_3 (X : zX gKX E) (B : zB E) (i55 : zOKR E md72 w gr_55_3 (vt55 3)) : zOKR E md72 w gr_52_3 (vt52 3) := by
  intro vs σ K h
  unfold vt52 at h
  split at h
  · rename_i d
    obtain ⟨hd, x, p, S, ⟨hT, hS, hn⟩, h0, h1⟩ := h
    show zGC E md72 w gr_52_3.1 0 [(0, .inr (.inl 102)), (1, .inr (.inl 7)), (2, .inr (.inl 93)), (3, .inl d)] σ K
    refine zbdC (fun hb0 => ?_)
    have b4 : 0 ≤ σ 102 4 ∧ σ 102 4 ≤ 20 := zfC hb0 (t := 102) (f := 4) (by decide +kernel)
    refine zbdC (fun hb => zgoR (⟨rfl, rfl, rfl⟩ : zalt gr_52_3 (gm_52, 8)) (⟨rfl, rfl, rfl⟩ : zalt gr_55_3 (gm_55, 7)) X B zOKR_no i55 (vLA_ok X B) (by decide) [] [(15, [0, 1, 2, 3, 4, 5, 6])] (fun m => Nat.beq m.2.2.2.2.2.2.length 59) (by decide +kernel) ?_)
    refine ⟨show d = 3 from by omega, x, p, S, ⟨hT, cSn_f hS cSf_refl, hn⟩, fun k1 p1 o1 (σ1 : vS) hk1 (q1 : (∀ (b : Int) (L : List Int), qN x S false d b L (σ 102 4) p = (k1, p1, o1))) fl1 g1 => ?_, fun p1 (σ1 : vS) (T1 : cT x p1 σ1) g1 m1 (q1 : (∀ (b : Int) (L : List Int), qN x S false d b L (σ 102 4) p = qN x S true b b L (σ1 102 4) p1)) => ?_⟩
    · have F1 : cSf σ σ1 := cSf_tr cSf_refl g1
      show zGC E md72 w gr_52_3.1 15 [(0, .inr (.inl 102)), (1, .inr (.inl 7)), (2, .inr (.inl 93)), (3, .inl d), (4, .inl 0), (5, .inl 0), (6, .inl 0)] σ1 K
      exact vt_52z_3 X B i55 (h0 k1 p1 o1 σ1 hk1 (fun L => q1 d L) fl1 F1)
    · have F1 : cSf σ σ1 := cSf_tr cSf_refl g1
      show zGC E md72 w gr_52_3.1 15 [(0, .inr (.inl 102)), (1, .inr (.inl 7)), (2, .inr (.inl 93)), (3, .inl d), (4, .inl 1), (5, .inl 0), (6, .inl 0)] σ1 K
      exact vt_52l_3 X B i55 hd hS hn h0 h1 22 0 0 σ1 p1 (by omega) (by omega) (by omega) (by omega) T1 F1 (by omega) (fun L => q1 d L)
  · exact absurd h id
set_option maxRecDepth 16384 in
theorem vt_55_2 (X : zX gKX E) (B : zB E) (i55 : zOKR E md72 w gr_55_3 (vt55 3)) (i52 : zOKR E md72 w gr_52_3 (vt52 3)) : zOKR E md72 w gr_55_2 (vt55 2) := by
  intro vs σ K h
  unfold vt55 at h
  split at h
  · rename_i d
    obtain ⟨hd, x, p, S, ⟨hT, hS, hn⟩, h0, h1⟩ := h
    show zGC E md72 w gr_55_2.1 0 [(0, .inr (.inl 102)), (1, .inr (.inl 7)), (2, .inr (.inl 93)), (3, .inl d)] σ K
    refine zbdC (fun hb => zgoR (⟨rfl, rfl, rfl⟩ : zalt gr_52_3 (gm_52, 8)) (⟨rfl, rfl, rfl⟩ : zalt gr_55_3 (gm_55, 7)) X B i52 i55 (vLA_ok X B) (by decide) [] [] (fun m => false) (by decide +kernel) ?_)
    refine fun z (t1 : (z = 1 ∧ σ 7 4 = 5 ∧ σ 7 6 = 40) ∨ (z = 0 ∧ ¬ (σ 7 4 = 5 ∧ σ 7 6 = 40))) => ?_
    rcases t1 with ⟨rfl, t1⟩ | ⟨rfl, t1⟩
    · refine fun (r2 : Int) (t3 : (σ 7 4 = 2 ∧ r2 = σ 7 6) ∨ (¬ σ 7 4 = 2 ∧ r2 = -1)) => ?_
      refine And.intro (fun _ => ?_) (fun (q : 1 = 0) => absurd q (by decide))
      have f4 : 0 ≤ σ 102 4 ∧ σ 102 4 ≤ 20 := zfC hb (t := 102) (f := 4) (by decide +kernel)
      refine And.intro (fun (c5 : 20 ≤ (σ 102 4)) => ?_) (fun (c6 : (σ 102 4) < 20) => ?_)
      · refine And.intro (cT_fl hT (by omega)) ?_
        refine And.intro (show 0 ≤ 0 ∧ 0 ≤ 1 from by omega) ?_
        have hB : ¬ qbeg x p = -1 := by have := (cT_bg hT).1 t1; omega
        exact h0 4 p (σ 102 4) _ (by decide) (fun b L => qN_of (qop_4 hB (by omega)) (by decide)) (cFl_of hT) (cSf_cg cSf_refl cg_fl)
      · refine And.intro (fun (c7 : d ≤ 8) => ?_) (fun (c8 : 8 < d) => ?_)
        · refine And.intro (show -2147483648 ≤ ((σ 102 4) + 1) ∧ ((σ 102 4) + 1) ≤ 2147483647 from by omega) ?_
          refine And.intro (show 0 ≤ ((σ 102 4) + 1) ∧ ((σ 102 4) + 1) ≤ 20 from by omega) ?_
          have hlim : ¬ (σ 102 4 = 20 ∨ 8 < d) := by omega
          have hB : qbeg x p = 9 := (cT_bg hT).1 t1
          have hon : σ 102 4 + 1 ≤ 20 := by omega
          have hk1 : ¬ qkd x.1 x.2.1 x.2.2 p = 0 ∧ ¬ qkd x.1 x.2.1 x.2.2 p = 4 := by first | exact (cT_nks hT).1 (by omega) | omega
          refine And.intro (cT_nx ⟨(cT_t hT (by decide)), hk1⟩) (fun s1 (σ1 : vS) ha1 f1 t1_ => ?_)
          have T1 : cT x (qnx x.1 x.2.1 p) σ1 := cT_next (cT_t hT (by decide)) hk1 ha1 f1 t1_
          have F1 : cSf σ σ1 := cSf_cg (cSf_up (by decide) cSf_refl) (cg_of f1)
          clear ha1
          clear t3
          have N1 : σ1 102 4 = (σ 102 4) + 1 := (congrFun ((cg_of f1).1 102 (by decide)) 4).trans vup_eq
          refine And.intro (fun (q : 1 = 0) => absurd q (by decide)) (fun _ => ?_)
          refine And.intro (show -2147483648 ≤ (d + 1) ∧ (d + 1) ≤ 2147483647 from by omega) ?_
          have eA : ∀ (b : Int) (L : List Int), qN x S false d b L (σ 102 4) p = qN x S false (d + 1) (d + 1) (b :: L) (σ 102 4 + 1) (qnx x.1 x.2.1 p) := fun b L => qN_og hT hn (qop_9 hB hlim)
          refine ⟨show d + 1 = 3 from by omega, x, (qnx x.1 x.2.1 p), S, ⟨T1, cSn_f hS F1, hn⟩, fun k2 p2 o2 (σ2 : vS) hk2 (q2 : (∀ L : List Int, qN x S false (d + 1) (d + 1) L (σ1 102 4) (qnx x.1 x.2.1 p) = (k2, p2, o2))) fl2 g2 => ?_, fun p2 (σ2 : vS) (T2 : cT x p2 σ2) g2 m2 (q2 : (∀ L : List Int, qN x S false (d + 1) (d + 1) L (σ1 102 4) (qnx x.1 x.2.1 p) = qN x S true (d + 1) (d + 1) L (σ2 102 4) p2)) hj2 => ?_⟩
          · rw [N1] at q2
            have F2 : cSf σ σ2 := cSf_tr F1 g2
            refine And.intro (fun _ => ?_) (fun (q : ¬ 0 = 0) => absurd q (by decide))
            refine And.intro (show 0 ≤ 0 ∧ 0 ≤ 1 from by omega) ?_
            exact h0 k2 p2 o2 σ2 hk2 (fun b L => (eA b L).trans (q2 (b :: L))) fl2 F2
          · rw [N1] at q2 m2
            have F2 : cSf σ σ2 := cSf_tr F1 g2
            refine And.intro (fun (q : 1 = 0) => absurd q (by decide)) (fun _ => ?_)
            refine ⟨x, p2, T2, fun e3 (σ3 : vS) fl3 g3 => ?_, fun e3 (σ3 : vS) T3 g3 => ?_⟩
            · have F3 : cSf σ σ3 := cSf_cg F2 g3
              refine And.intro (fun _ => ?_) (fun (q : ¬ 0 = 0) => absurd q (by decide))
              refine And.intro (show 0 ≤ 0 ∧ 0 ≤ 1 from by omega) ?_
              exact h0 1 p2 (σ2 102 4) σ3 (by decide) (fun b L => ((eA b L).trans (q2 (b :: L))).trans (qN_nc hj2 e3)) fl3 F3
            · have F3 : cSf σ σ3 := cSf_cg F2 g3
              have N3 : σ3 102 4 = σ2 102 4 := congrFun (g3.1 102 (by decide)) 4
              refine And.intro (fun (q : 1 = 0) => absurd q (by decide)) (fun _ => ?_)
              refine And.intro (show 0 ≤ 1 ∧ 1 ≤ 1 from by omega) ?_
              exact h1 (qnx x.1 x.2.1 p2) σ3 T3 F3 (by omega) (fun b L => by rw [N3]; exact ((eA b L).trans (q2 (b :: L))).trans (qN_cl T2 hn hj2 e3))
        · refine And.intro (cT_fl hT (by omega)) ?_
          refine And.intro (show 0 ≤ 0 ∧ 0 ≤ 1 from by omega) ?_
          have hB : ¬ qbeg x p = -1 := by have := (cT_bg hT).1 t1; omega
          exact h0 4 p (σ 102 4) _ (by decide) (fun b L => qN_of (qop_4 hB (by omega)) (by decide)) (cFl_of hT) (cSf_cg cSf_refl cg_fl)
    · refine fun (r9 : Int) (t10 : (σ 7 4 = 2 ∧ r9 = σ 7 6) ∨ (¬ σ 7 4 = 2 ∧ r9 = -1)) => ?_
      refine And.intro (fun (q : ¬ 0 = 0) => absurd q (by decide)) (fun _ => ?_)
      refine And.intro (fun (c11 : r9 < 21) => ?_) (fun (c12 : 21 ≤ r9) => ?_)
      · refine And.intro (cT_fl hT (by omega)) ?_
        refine And.intro (show 0 ≤ 0 ∧ 0 ≤ 1 from by omega) ?_
        have hB : qbeg x p = -1 := (cT_bg hT).2.2.2 t1 (by omega)
        exact h0 1 p (σ 102 4) _ (by decide) (fun b L => qN_of (qop_1 hB) (by decide)) (cFl_of hT) (cSf_cg cSf_refl cg_fl)
      · refine And.intro (fun (c13 : r9 ≤ 29) => ?_) (fun (c14 : 29 < r9) => ?_)
        · have f15 : 0 ≤ σ 102 4 ∧ σ 102 4 ≤ 20 := zfC hb (t := 102) (f := 4) (by decide +kernel)
          refine And.intro (fun (c16 : 20 ≤ (σ 102 4)) => ?_) (fun (c17 : (σ 102 4) < 20) => ?_)
          · refine And.intro (cT_fl hT (by omega)) ?_
            refine And.intro (show 0 ≤ 0 ∧ 0 ≤ 1 from by omega) ?_
            have hB : ¬ qbeg x p = -1 := by
              by_cases e : σ 7 6 = 21
              · have := (cT_bg hT).2.1 (by omega); omega
              · have := (cT_bg hT).2.2.1 (by omega); omega
            exact h0 4 p (σ 102 4) _ (by decide) (fun b L => qN_of (qop_4 hB (by omega)) (by decide)) (cFl_of hT) (cSf_cg cSf_refl cg_fl)
          · refine And.intro (fun (c18 : d ≤ 8) => ?_) (fun (c19 : 8 < d) => ?_)
            · refine And.intro (show -2147483648 ≤ ((σ 102 4) + 1) ∧ ((σ 102 4) + 1) ≤ 2147483647 from by omega) ?_
              refine And.intro (show 0 ≤ ((σ 102 4) + 1) ∧ ((σ 102 4) + 1) ≤ 20 from by omega) ?_
              have hlim : ¬ (σ 102 4 = 20 ∨ 8 < d) := by omega
              have hon : σ 102 4 + 1 ≤ 20 := by omega
              have hr : σ 7 4 = 2 ∧ r9 = σ 7 6 := by omega
              have hk1 : ¬ qkd x.1 x.2.1 x.2.2 p = 0 ∧ ¬ qkd x.1 x.2.1 x.2.2 p = 4 := by first | exact (cT_nks hT).1 (by omega) | omega
              refine And.intro (cT_nx ⟨(cT_t hT (by decide)), hk1⟩) (fun s1 (σ1 : vS) ha1 f1 t1_ => ?_)
              have T1 : cT x (qnx x.1 x.2.1 p) σ1 := cT_next (cT_t hT (by decide)) hk1 ha1 f1 t1_
              have F1 : cSf σ σ1 := cSf_cg (cSf_up (by decide) cSf_refl) (cg_of f1)
              clear ha1
              clear t10 t1
              have N1 : σ1 102 4 = (σ 102 4) + 1 := (congrFun ((cg_of f1).1 102 (by decide)) 4).trans vup_eq
              refine And.intro (fun _ => ?_) (fun (q : ¬ 0 = 0) => absurd q (by decide))
              refine And.intro (And.intro (fun (c20 : r9 = 21) => ?_) (And.intro (fun (c21 : r9 = 22) => ?_) (And.intro (fun (c22 : r9 = 23) => ?_) (And.intro (fun (c23 : r9 = 24) => ?_) (And.intro (fun (c24 : r9 = 25) => ?_) (trivial)))))) (fun (c25 : r9 < 21 ∨ 25 < r9) => ?_)
              · refine And.intro (show -2147483648 ≤ (d + 1) ∧ (d + 1) ≤ 2147483647 from by omega) ?_
                have hB : qbeg x p = 8 := (cT_bg hT).2.1 (by omega)
                have eA : ∀ (b : Int) (L : List Int), qN x S false d b L (σ 102 4) p = qN x S false (d + 1) b L (σ 102 4 + 1) (qnx x.1 x.2.1 p) := fun b L => qN_og hT hn (qop_8 hB hlim)
                refine ⟨show d + 1 = 3 from by omega, x, (qnx x.1 x.2.1 p), S, ⟨T1, cSn_f hS F1, hn⟩, fun k2 p2 o2 (σ2 : vS) hk2 (q2 : (∀ (b : Int) (L : List Int), qN x S false (d + 1) b L (σ1 102 4) (qnx x.1 x.2.1 p) = (k2, p2, o2))) fl2 g2 => ?_, fun p2 (σ2 : vS) (T2 : cT x p2 σ2) g2 m2 (q2 : (∀ (b : Int) (L : List Int), qN x S false (d + 1) b L (σ1 102 4) (qnx x.1 x.2.1 p) = qN x S true b b L (σ2 102 4) p2)) => ?_⟩
                · rw [N1] at q2
                  have F2 : cSf σ σ2 := cSf_tr F1 g2
                  refine And.intro (show ((0 : Int) ≤ 21 ∧ 21 ≤ 29) ∧ 0 ≤ 0 ∧ 0 ≤ 6299 from by omega) (fun (σ3 : vS) g3 n3 => ?_)
                  have F3 : cSf σ σ3 := cSf_sg F2 g3
                  have y3 : σ3 7 4 = σ2 7 4 := congrFun (g3 7 (by decide)) 4
                  refine And.intro (show 0 ≤ 0 ∧ 0 ≤ 1 from by omega) ?_
                  exact h0 k2 p2 o2 σ3 hk2 (fun b L => (eA b L).trans (q2 b L)) (cFl_sg fl2 g3) F3
                · rw [N1] at q2 m2
                  have F2 : cSf σ σ2 := cSf_tr F1 g2
                  refine And.intro (show ((0 : Int) ≤ 21 ∧ 21 ≤ 29) ∧ 0 ≤ 0 ∧ 0 ≤ 6299 from by omega) (fun (σ3 : vS) g3 n3 => ?_)
                  have T3 : cT x p2 σ3 := cT_sg T2 g3
                  have F3 : cSf σ σ3 := cSf_sg F2 g3
                  have N3 : σ3 102 4 = σ2 102 4 := n3
                  have y3 : σ3 7 4 = σ2 7 4 := congrFun (g3 7 (by decide)) 4
                  refine And.intro (show 0 ≤ 1 ∧ 1 ≤ 1 from by omega) ?_
                  exact h1 p2 σ3 T3 F3 (by omega) (fun b L => by rw [N3]; exact (eA b L).trans (q2 b L))
              · refine And.intro (show ((0 : Int) ≤ r9 ∧ r9 ≤ 29) ∧ 0 ≤ 0 ∧ 0 ≤ 6299 from by omega) (fun (σ2 : vS) g2 n2 => ?_)
                have T2 : cT x (qnx x.1 x.2.1 p) σ2 := cT_sg T1 g2
                have F2 : cSf σ σ2 := cSf_sg F1 g2
                have N2 : σ2 102 4 = (σ 102 4) + 1 := n2.trans N1
                have y2 : σ2 7 4 = σ1 7 4 := congrFun (g2 7 (by decide)) 4
                refine And.intro (show 0 ≤ 1 ∧ 1 ≤ 1 from by omega) ?_
                have hB := (cT_bg hT).2.2.1 (by omega)
                exact h1 (qnx x.1 x.2.1 p) σ2 T2 F2 ⟨by rw [N2]; exact Int.le_refl _, by rw [N2]; exact hon⟩ (fun b L => by rw [N2]; exact (qN_og hT hn (qop_l (by omega) hlim)).trans qN_d)
              · refine And.intro (show ((0 : Int) ≤ r9 ∧ r9 ≤ 29) ∧ 0 ≤ 0 ∧ 0 ≤ 6299 from by omega) (fun (σ2 : vS) g2 n2 => ?_)
                have T2 : cT x (qnx x.1 x.2.1 p) σ2 := cT_sg T1 g2
                have F2 : cSf σ σ2 := cSf_sg F1 g2
                have N2 : σ2 102 4 = (σ 102 4) + 1 := n2.trans N1
                have y2 : σ2 7 4 = σ1 7 4 := congrFun (g2 7 (by decide)) 4
                refine And.intro (show 0 ≤ 1 ∧ 1 ≤ 1 from by omega) ?_
                have hB := (cT_bg hT).2.2.1 (by omega)
                exact h1 (qnx x.1 x.2.1 p) σ2 T2 F2 ⟨by rw [N2]; exact Int.le_refl _, by rw [N2]; exact hon⟩ (fun b L => by rw [N2]; exact (qN_og hT hn (qop_l (by omega) hlim)).trans qN_d)
              · have hB : qbeg x p = 2 := by have := (cT_bg hT).2.2.1 (by omega); omega
                obtain ⟨r1, r2, r3⟩ := qof_b (x := x) (S := S) (p := (qnx x.1 x.2.1 p)) hS.2 (k := 2) (by omega)
                have eM : ∀ (b : Int) (L : List Int), qop x S.2.2 (S.2.1 0) (S.2.1 1) d b L (σ 102 4) p = if (qofn x S.2.2 (S.2.1 0) (S.2.1 1) 2 (qnx x.1 x.2.1 p)) < 0 then (-(qofn x S.2.2 (S.2.1 0) (S.2.1 1) 2 (qnx x.1 x.2.1 p)), ((qnx x.1 x.2.1 p), true, d, b, L, σ 102 4 + 1)) else (0, (qnx x.1 x.2.1 (qnx x.1 x.2.1 p), true, d, b, L, σ 102 4 + 1)) := fun b L => by
                  have e := qop_m (x := x) (nm := S.2.2) (mh := S.2.1 0) (mo := S.2.1 1) (d := d) (b := b) (L := L) (o := σ 102 4) (p := p) (by omega) hlim
                  rw [hB] at e
                  exact e
                refine ⟨by omega, x, ((qnx x.1 x.2.1 p), S.2), S.2.1 1, T1, (cSn_f hS F1).1, hS.2, fun q => absurd q (by decide), fun _ => ⟨rfl, fun c2 (σ2 : vS) fl2 g2 => ?_, fun c2 => ?_⟩, fun q => absurd q (by decide)⟩
                · clear r3
                  have c2 : (qofn x S.2.2 (S.2.1 0) (S.2.1 1) 2 (qnx x.1 x.2.1 p)) < 0 := c2
                  have fl2 : cFl x (-(qofn x S.2.2 (S.2.1 0) (S.2.1 1) 2 (qnx x.1 x.2.1 p))) (qnx x.1 x.2.1 p) σ2 := fl2
                  have F2 : cSf σ σ2 := cSf_cg F1 g2
                  refine And.intro (fun (q : ¬ (-1) = (-1)) => absurd q (by decide)) (fun _ => ?_)
                  refine And.intro (show 0 ≤ 0 ∧ 0 ≤ 1 from by omega) ?_
                  refine And.intro (show 0 ≤ 0 ∧ 0 ≤ 1 from by omega) ?_
                  exact h0 (-(qofn x S.2.2 (S.2.1 0) (S.2.1 1) 2 (qnx x.1 x.2.1 p))) (qnx x.1 x.2.1 p) (σ 102 4 + 1) σ2 (by omega) (fun b L => qN_of ((eM b L).trans (if_pos c2)) (by omega)) fl2 F2
                · have c2 : 0 ≤ (qofn x S.2.2 (S.2.1 0) (S.2.1 1) 2 (qnx x.1 x.2.1 p)) := c2
                  have kq2 := r3 c2
                  clear r3
                  have eR26 : qlk x 6 (S.2.1 1) ((qnx x.1 x.2.1 p), S.2) = (qofn x S.2.2 (S.2.1 0) (S.2.1 1) 2 (qnx x.1 x.2.1 p)) := rfl
                  rw [eR26]
                  refine And.intro (fun (c27 : ¬ ((qofn x S.2.2 (S.2.1 0) (S.2.1 1) 2 (qnx x.1 x.2.1 p))) = (-1)) => ?_) (fun (c28 : ((qofn x S.2.2 (S.2.1 0) (S.2.1 1) 2 (qnx x.1 x.2.1 p))) = (-1)) => ?_)
                  · refine And.intro (show ((0 : Int) ≤ r9 ∧ r9 ≤ 29) ∧ 0 ≤ ((qofn x S.2.2 (S.2.1 0) (S.2.1 1) 2 (qnx x.1 x.2.1 p))) ∧ ((qofn x S.2.2 (S.2.1 0) (S.2.1 1) 2 (qnx x.1 x.2.1 p))) ≤ 6299 from by omega) (fun (σ2 : vS) g2 n2 => ?_)
                    have T2 : cT x (qnx x.1 x.2.1 p) σ2 := cT_sg T1 g2
                    have F2 : cSf σ σ2 := cSf_sg F1 g2
                    have N2 : σ2 102 4 = (σ 102 4) + 1 := n2.trans N1
                    have y2 : σ2 7 4 = σ1 7 4 := congrFun (g2 7 (by decide)) 4
                    have hk3 : ¬ qkd x.1 x.2.1 x.2.2 (qnx x.1 x.2.1 p) = 0 ∧ ¬ qkd x.1 x.2.1 x.2.2 (qnx x.1 x.2.1 p) = 4 := by first | exact (cT_nks T2).1 (by omega) | omega
                    refine And.intro (cT_nx ⟨T2, hk3⟩) (fun s3 (σ3 : vS) ha3 f3 t3_ => ?_)
                    have T3 : cT x (qnx x.1 x.2.1 (qnx x.1 x.2.1 p)) σ3 := cT_next T2 hk3 ha3 f3 t3_
                    have F3 : cSf σ σ3 := cSf_cg F2 (cg_of f3)
                    clear ha3
                    have N3 : σ3 102 4 = (σ 102 4) + 1 := (congrFun ((cg_of f3).1 102 (by decide)) 4).trans N2
                    refine And.intro (show 0 ≤ 1 ∧ 1 ≤ 1 from by omega) ?_
                    refine And.intro (show 0 ≤ 1 ∧ 1 ≤ 1 from by omega) ?_
                    exact h1 (qnx x.1 x.2.1 (qnx x.1 x.2.1 p)) σ3 T3 F3 ⟨by rw [N3]; exact Int.le_refl _, by rw [N3]; exact hon⟩ (fun b L => by rw [N3]; exact (qN_og hT hn ((eM b L).trans (if_neg (by omega)))).trans qN_d)
                  · refine And.intro (show 0 ≤ 0 ∧ 0 ≤ 1 from by omega) ?_
                    refine And.intro (show 0 ≤ 0 ∧ 0 ≤ 1 from by omega) ?_
                    exfalso; omega
              · have hB : qbeg x p = 3 := by have := (cT_bg hT).2.2.1 (by omega); omega
                obtain ⟨r1, r2, r3⟩ := qof_b (x := x) (S := S) (p := (qnx x.1 x.2.1 p)) hS.2 (k := 3) (by omega)
                have eM : ∀ (b : Int) (L : List Int), qop x S.2.2 (S.2.1 0) (S.2.1 1) d b L (σ 102 4) p = if (qofn x S.2.2 (S.2.1 0) (S.2.1 1) 3 (qnx x.1 x.2.1 p)) < 0 then (-(qofn x S.2.2 (S.2.1 0) (S.2.1 1) 3 (qnx x.1 x.2.1 p)), ((qnx x.1 x.2.1 p), true, d, b, L, σ 102 4 + 1)) else (0, (qnx x.1 x.2.1 (qnx x.1 x.2.1 p), true, d, b, L, σ 102 4 + 1)) := fun b L => by
                  have e := qop_m (x := x) (nm := S.2.2) (mh := S.2.1 0) (mo := S.2.1 1) (d := d) (b := b) (L := L) (o := σ 102 4) (p := p) (by omega) hlim
                  rw [hB] at e
                  exact e
                refine ⟨by omega, x, ((qnx x.1 x.2.1 p), S.2), S.2.1 0, T1, (cSn_f hS F1).1, hS.2, fun _ => ⟨rfl, fun c2 (σ2 : vS) fl2 g2 => ?_, fun c2 => ?_⟩, fun q => absurd q (by decide), fun q => absurd q (by decide)⟩
                · clear r3
                  have c2 : (qofn x S.2.2 (S.2.1 0) (S.2.1 1) 3 (qnx x.1 x.2.1 p)) < 0 := c2
                  have fl2 : cFl x (-(qofn x S.2.2 (S.2.1 0) (S.2.1 1) 3 (qnx x.1 x.2.1 p))) (qnx x.1 x.2.1 p) σ2 := fl2
                  have F2 : cSf σ σ2 := cSf_cg F1 g2
                  refine And.intro (fun (q : ¬ (-1) = (-1)) => absurd q (by decide)) (fun _ => ?_)
                  refine And.intro (show 0 ≤ 0 ∧ 0 ≤ 1 from by omega) ?_
                  refine And.intro (show 0 ≤ 0 ∧ 0 ≤ 1 from by omega) ?_
                  exact h0 (-(qofn x S.2.2 (S.2.1 0) (S.2.1 1) 3 (qnx x.1 x.2.1 p))) (qnx x.1 x.2.1 p) (σ 102 4 + 1) σ2 (by omega) (fun b L => qN_of ((eM b L).trans (if_pos c2)) (by omega)) fl2 F2
                · have c2 : 0 ≤ (qofn x S.2.2 (S.2.1 0) (S.2.1 1) 3 (qnx x.1 x.2.1 p)) := c2
                  have kq2 := r3 c2
                  clear r3
                  have eR29 : qlk x 0 (S.2.1 0) ((qnx x.1 x.2.1 p), S.2) = (qofn x S.2.2 (S.2.1 0) (S.2.1 1) 3 (qnx x.1 x.2.1 p)) := rfl
                  rw [eR29]
                  refine And.intro (fun (c30 : ¬ ((qofn x S.2.2 (S.2.1 0) (S.2.1 1) 3 (qnx x.1 x.2.1 p))) = (-1)) => ?_) (fun (c31 : ((qofn x S.2.2 (S.2.1 0) (S.2.1 1) 3 (qnx x.1 x.2.1 p))) = (-1)) => ?_)
                  · refine And.intro (show ((0 : Int) ≤ r9 ∧ r9 ≤ 29) ∧ 0 ≤ ((qofn x S.2.2 (S.2.1 0) (S.2.1 1) 3 (qnx x.1 x.2.1 p))) ∧ ((qofn x S.2.2 (S.2.1 0) (S.2.1 1) 3 (qnx x.1 x.2.1 p))) ≤ 6299 from by omega) (fun (σ2 : vS) g2 n2 => ?_)
                    have T2 : cT x (qnx x.1 x.2.1 p) σ2 := cT_sg T1 g2
                    have F2 : cSf σ σ2 := cSf_sg F1 g2
                    have N2 : σ2 102 4 = (σ 102 4) + 1 := n2.trans N1
                    have y2 : σ2 7 4 = σ1 7 4 := congrFun (g2 7 (by decide)) 4
                    have hk3 : ¬ qkd x.1 x.2.1 x.2.2 (qnx x.1 x.2.1 p) = 0 ∧ ¬ qkd x.1 x.2.1 x.2.2 (qnx x.1 x.2.1 p) = 4 := by first | exact (cT_nks T2).1 (by omega) | omega
                    refine And.intro (cT_nx ⟨T2, hk3⟩) (fun s3 (σ3 : vS) ha3 f3 t3_ => ?_)
                    have T3 : cT x (qnx x.1 x.2.1 (qnx x.1 x.2.1 p)) σ3 := cT_next T2 hk3 ha3 f3 t3_
                    have F3 : cSf σ σ3 := cSf_cg F2 (cg_of f3)
                    clear ha3
                    have N3 : σ3 102 4 = (σ 102 4) + 1 := (congrFun ((cg_of f3).1 102 (by decide)) 4).trans N2
                    refine And.intro (show 0 ≤ 1 ∧ 1 ≤ 1 from by omega) ?_
                    refine And.intro (show 0 ≤ 1 ∧ 1 ≤ 1 from by omega) ?_
                    exact h1 (qnx x.1 x.2.1 (qnx x.1 x.2.1 p)) σ3 T3 F3 ⟨by rw [N3]; exact Int.le_refl _, by rw [N3]; exact hon⟩ (fun b L => by rw [N3]; exact (qN_og hT hn ((eM b L).trans (if_neg (by omega)))).trans qN_d)
                  · refine And.intro (show 0 ≤ 0 ∧ 0 ≤ 1 from by omega) ?_
                    refine And.intro (show 0 ≤ 0 ∧ 0 ≤ 1 from by omega) ?_
                    exfalso; omega
              · refine fun z (t32 : (z = 1 ∧ σ1 7 4 = 5 ∧ σ1 7 6 = 60) ∨ (z = 0 ∧ ¬ (σ1 7 4 = 5 ∧ σ1 7 6 = 60))) => ?_
                rcases t32 with ⟨rfl, t32⟩ | ⟨rfl, t32⟩
                · refine And.intro (fun _ => ?_) (fun (q : 1 = 0) => absurd q (by decide))
                  have hk2 : ¬ qkd x.1 x.2.1 x.2.2 (qnx x.1 x.2.1 p) = 0 ∧ ¬ qkd x.1 x.2.1 x.2.2 (qnx x.1 x.2.1 p) = 4 := by first | exact (cT_nks T1).1 (by omega) | omega
                  refine And.intro (cT_nx ⟨T1, hk2⟩) (fun s2 (σ2 : vS) ha2 f2 t2_ => ?_)
                  have T2 : cT x (qnx x.1 x.2.1 (qnx x.1 x.2.1 p)) σ2 := cT_next T1 hk2 ha2 f2 t2_
                  have F2 : cSf σ σ2 := cSf_cg F1 (cg_of f2)
                  clear ha2
                  have N2 : σ2 102 4 = (σ 102 4) + 1 := (congrFun ((cg_of f2).1 102 (by decide)) 4).trans N1
                  have vu33 := cT_v T2
                  refine ⟨(cT_fl T2 (by decide : (0 : Int) ≤ 1 ∧ (1 : Int) ≤ 4)).2, fun cu33 => ?_, fun cu33 du33 => ?_, fun cu33 du33 eu33 => ?_⟩
                  · refine And.intro (fun (q : ¬ (-1) = (-1)) => absurd q (by decide)) (fun _ => ?_)
                    refine And.intro (show 0 ≤ 0 ∧ 0 ≤ 1 from by omega) ?_
                    refine And.intro (show 0 ≤ 0 ∧ 0 ≤ 1 from by omega) ?_
                    have hB := (cT_bg hT).2.2.1 (by omega)
                    have e3 : qsg3 x (qnx x.1 x.2.1 p) = true := (cT_s3 T1).mpr (by omega)
                    have e4 : ¬ qkd x.1 x.2.1 x.2.2 (qnx x.1 x.2.1 (qnx x.1 x.2.1 p)) = 2 := fun q => cu33 ((cT_nks T2).2.1.mp q)
                    exact h0 1 (qnx x.1 x.2.1 (qnx x.1 x.2.1 p)) (σ 102 4 + 1) _ (by decide) (fun b L => qN_of ((qop_s (by omega) hlim).trans ((if_pos e3).trans (if_neg e4))) (by decide)) (cFl_of T2) (cSf_cg F2 cg_fl)
                  · exfalso; have := vu33 cu33; omega
                  · have wu33 := vu33 cu33
                    clear vu33 du33 eu33
                    refine And.intro (fun (c34 : ¬ (σ2 7 6) = (-1)) => ?_) (fun (c35 : (σ2 7 6) = (-1)) => ?_)
                    · refine And.intro (show -2147483648 ≤ ((σ1 7 6) * 100) ∧ ((σ1 7 6) * 100) ≤ 2147483647 from by omega) ?_
                      refine And.intro (show -2147483648 ≤ (((σ1 7 6) * 100) + (σ2 7 6)) ∧ (((σ1 7 6) * 100) + (σ2 7 6)) ≤ 2147483647 from by omega) ?_
                      refine And.intro (show ((0 : Int) ≤ r9 ∧ r9 ≤ 29) ∧ 0 ≤ (((σ1 7 6) * 100) + (σ2 7 6)) ∧ (((σ1 7 6) * 100) + (σ2 7 6)) ≤ 6299 from by omega) (fun (σ3 : vS) g3 n3 => ?_)
                      have T3 : cT x (qnx x.1 x.2.1 (qnx x.1 x.2.1 p)) σ3 := cT_sg T2 g3
                      have F3 : cSf σ σ3 := cSf_sg F2 g3
                      have N3 : σ3 102 4 = (σ 102 4) + 1 := n3.trans N2
                      have y3 : σ3 7 4 = σ2 7 4 := congrFun (g3 7 (by decide)) 4
                      have hk4 : ¬ qkd x.1 x.2.1 x.2.2 (qnx x.1 x.2.1 (qnx x.1 x.2.1 p)) = 0 ∧ ¬ qkd x.1 x.2.1 x.2.2 (qnx x.1 x.2.1 (qnx x.1 x.2.1 p)) = 4 := by first | exact (cT_nks T3).1 (by omega) | omega
                      refine And.intro (cT_nx ⟨T3, hk4⟩) (fun s4 (σ4 : vS) ha4 f4 t4_ => ?_)
                      have T4 : cT x (qnx x.1 x.2.1 (qnx x.1 x.2.1 (qnx x.1 x.2.1 p))) σ4 := cT_next T3 hk4 ha4 f4 t4_
                      have F4 : cSf σ σ4 := cSf_cg F3 (cg_of f4)
                      clear ha4
                      have N4 : σ4 102 4 = (σ 102 4) + 1 := (congrFun ((cg_of f4).1 102 (by decide)) 4).trans N3
                      refine And.intro (show 0 ≤ 1 ∧ 1 ≤ 1 from by omega) ?_
                      refine And.intro (show 0 ≤ 1 ∧ 1 ≤ 1 from by omega) ?_
                      have hB := (cT_bg hT).2.2.1 (by omega)
                      have e3 : qsg3 x (qnx x.1 x.2.1 p) = true := (cT_s3 T1).mpr (by omega)
                      have e4 : qkd x.1 x.2.1 x.2.2 (qnx x.1 x.2.1 (qnx x.1 x.2.1 p)) = 2 := (cT_nks T2).2.1.mpr cu33
                      exact h1 (qnx x.1 x.2.1 (qnx x.1 x.2.1 (qnx x.1 x.2.1 p))) σ4 T4 F4 ⟨by rw [N4]; exact Int.le_refl _, by rw [N4]; exact hon⟩ (fun b L => by rw [N4]; exact (qN_og hT hn ((qop_s (by omega) hlim).trans ((if_pos e3).trans (if_pos e4)))).trans qN_d)
                    · refine And.intro (show 0 ≤ 0 ∧ 0 ≤ 1 from by omega) ?_
                      refine And.intro (show 0 ≤ 0 ∧ 0 ≤ 1 from by omega) ?_
                      exfalso; omega
                · refine And.intro (fun (q : ¬ 0 = 0) => absurd q (by decide)) (fun _ => ?_)
                  refine fun z (t36 : (z = 1 ∧ σ1 7 4 = 5 ∧ σ1 7 6 = 61) ∨ (z = 0 ∧ ¬ (σ1 7 4 = 5 ∧ σ1 7 6 = 61))) => ?_
                  rcases t36 with ⟨rfl, t36⟩ | ⟨rfl, t36⟩
                  · clear t32
                    refine And.intro (fun _ => ?_) (fun (q : 1 = 0) => absurd q (by decide))
                    have hk2 : ¬ qkd x.1 x.2.1 x.2.2 (qnx x.1 x.2.1 p) = 0 ∧ ¬ qkd x.1 x.2.1 x.2.2 (qnx x.1 x.2.1 p) = 4 := by first | exact (cT_nks T1).1 (by omega) | omega
                    refine And.intro (cT_nx ⟨T1, hk2⟩) (fun s2 (σ2 : vS) ha2 f2 t2_ => ?_)
                    have T2 : cT x (qnx x.1 x.2.1 (qnx x.1 x.2.1 p)) σ2 := cT_next T1 hk2 ha2 f2 t2_
                    have F2 : cSf σ σ2 := cSf_cg F1 (cg_of f2)
                    clear ha2
                    have N2 : σ2 102 4 = (σ 102 4) + 1 := (congrFun ((cg_of f2).1 102 (by decide)) 4).trans N1
                    have vu37 := cT_v T2
                    refine ⟨(cT_fl T2 (by decide : (0 : Int) ≤ 1 ∧ (1 : Int) ≤ 4)).2, fun cu37 => ?_, fun cu37 du37 => ?_, fun cu37 du37 eu37 => ?_⟩
                    · refine And.intro (fun (q : ¬ (-1) = (-1)) => absurd q (by decide)) (fun _ => ?_)
                      refine And.intro (show 0 ≤ 0 ∧ 0 ≤ 1 from by omega) ?_
                      refine And.intro (show 0 ≤ 0 ∧ 0 ≤ 1 from by omega) ?_
                      have hB := (cT_bg hT).2.2.1 (by omega)
                      have e3 : qsg3 x (qnx x.1 x.2.1 p) = true := (cT_s3 T1).mpr (by omega)
                      have e4 : ¬ qkd x.1 x.2.1 x.2.2 (qnx x.1 x.2.1 (qnx x.1 x.2.1 p)) = 2 := fun q => cu37 ((cT_nks T2).2.1.mp q)
                      exact h0 1 (qnx x.1 x.2.1 (qnx x.1 x.2.1 p)) (σ 102 4 + 1) _ (by decide) (fun b L => qN_of ((qop_s (by omega) hlim).trans ((if_pos e3).trans (if_neg e4))) (by decide)) (cFl_of T2) (cSf_cg F2 cg_fl)
                    · exfalso; have := vu37 cu37; omega
                    · have wu37 := vu37 cu37
                      clear vu37 du37 eu37
                      refine And.intro (fun (c38 : ¬ (σ2 7 6) = (-1)) => ?_) (fun (c39 : (σ2 7 6) = (-1)) => ?_)
                      · refine And.intro (show -2147483648 ≤ ((σ1 7 6) * 100) ∧ ((σ1 7 6) * 100) ≤ 2147483647 from by omega) ?_
                        refine And.intro (show -2147483648 ≤ (((σ1 7 6) * 100) + (σ2 7 6)) ∧ (((σ1 7 6) * 100) + (σ2 7 6)) ≤ 2147483647 from by omega) ?_
                        refine And.intro (show ((0 : Int) ≤ r9 ∧ r9 ≤ 29) ∧ 0 ≤ (((σ1 7 6) * 100) + (σ2 7 6)) ∧ (((σ1 7 6) * 100) + (σ2 7 6)) ≤ 6299 from by omega) (fun (σ3 : vS) g3 n3 => ?_)
                        have T3 : cT x (qnx x.1 x.2.1 (qnx x.1 x.2.1 p)) σ3 := cT_sg T2 g3
                        have F3 : cSf σ σ3 := cSf_sg F2 g3
                        have N3 : σ3 102 4 = (σ 102 4) + 1 := n3.trans N2
                        have y3 : σ3 7 4 = σ2 7 4 := congrFun (g3 7 (by decide)) 4
                        have hk4 : ¬ qkd x.1 x.2.1 x.2.2 (qnx x.1 x.2.1 (qnx x.1 x.2.1 p)) = 0 ∧ ¬ qkd x.1 x.2.1 x.2.2 (qnx x.1 x.2.1 (qnx x.1 x.2.1 p)) = 4 := by first | exact (cT_nks T3).1 (by omega) | omega
                        refine And.intro (cT_nx ⟨T3, hk4⟩) (fun s4 (σ4 : vS) ha4 f4 t4_ => ?_)
                        have T4 : cT x (qnx x.1 x.2.1 (qnx x.1 x.2.1 (qnx x.1 x.2.1 p))) σ4 := cT_next T3 hk4 ha4 f4 t4_
                        have F4 : cSf σ σ4 := cSf_cg F3 (cg_of f4)
                        clear ha4
                        have N4 : σ4 102 4 = (σ 102 4) + 1 := (congrFun ((cg_of f4).1 102 (by decide)) 4).trans N3
                        refine And.intro (show 0 ≤ 1 ∧ 1 ≤ 1 from by omega) ?_
                        refine And.intro (show 0 ≤ 1 ∧ 1 ≤ 1 from by omega) ?_
                        have hB := (cT_bg hT).2.2.1 (by omega)
                        have e3 : qsg3 x (qnx x.1 x.2.1 p) = true := (cT_s3 T1).mpr (by omega)
                        have e4 : qkd x.1 x.2.1 x.2.2 (qnx x.1 x.2.1 (qnx x.1 x.2.1 p)) = 2 := (cT_nks T2).2.1.mpr cu37
                        exact h1 (qnx x.1 x.2.1 (qnx x.1 x.2.1 (qnx x.1 x.2.1 p))) σ4 T4 F4 ⟨by rw [N4]; exact Int.le_refl _, by rw [N4]; exact hon⟩ (fun b L => by rw [N4]; exact (qN_og hT hn ((qop_s (by omega) hlim).trans ((if_pos e3).trans (if_pos e4)))).trans qN_d)
                      · refine And.intro (show 0 ≤ 0 ∧ 0 ≤ 1 from by omega) ?_
                        refine And.intro (show 0 ≤ 0 ∧ 0 ≤ 1 from by omega) ?_
                        exfalso; omega
                  · refine And.intro (fun (q : ¬ 0 = 0) => absurd q (by decide)) (fun _ => ?_)
                    refine fun z (t40 : (z = 1 ∧ σ1 7 4 = 5 ∧ σ1 7 6 = 62) ∨ (z = 0 ∧ ¬ (σ1 7 4 = 5 ∧ σ1 7 6 = 62))) => ?_
                    rcases t40 with ⟨rfl, t40⟩ | ⟨rfl, t40⟩
                    · clear t32 t36
                      refine And.intro (fun _ => ?_) (fun (q : 1 = 0) => absurd q (by decide))
                      have hk2 : ¬ qkd x.1 x.2.1 x.2.2 (qnx x.1 x.2.1 p) = 0 ∧ ¬ qkd x.1 x.2.1 x.2.2 (qnx x.1 x.2.1 p) = 4 := by first | exact (cT_nks T1).1 (by omega) | omega
                      refine And.intro (cT_nx ⟨T1, hk2⟩) (fun s2 (σ2 : vS) ha2 f2 t2_ => ?_)
                      have T2 : cT x (qnx x.1 x.2.1 (qnx x.1 x.2.1 p)) σ2 := cT_next T1 hk2 ha2 f2 t2_
                      have F2 : cSf σ σ2 := cSf_cg F1 (cg_of f2)
                      clear ha2
                      have N2 : σ2 102 4 = (σ 102 4) + 1 := (congrFun ((cg_of f2).1 102 (by decide)) 4).trans N1
                      have vu41 := cT_v T2
                      refine ⟨(cT_fl T2 (by decide : (0 : Int) ≤ 1 ∧ (1 : Int) ≤ 4)).2, fun cu41 => ?_, fun cu41 du41 => ?_, fun cu41 du41 eu41 => ?_⟩
                      · refine And.intro (fun (q : ¬ (-1) = (-1)) => absurd q (by decide)) (fun _ => ?_)
                        refine And.intro (show 0 ≤ 0 ∧ 0 ≤ 1 from by omega) ?_
                        refine And.intro (show 0 ≤ 0 ∧ 0 ≤ 1 from by omega) ?_
                        have hB := (cT_bg hT).2.2.1 (by omega)
                        have e3 : qsg3 x (qnx x.1 x.2.1 p) = true := (cT_s3 T1).mpr (by omega)
                        have e4 : ¬ qkd x.1 x.2.1 x.2.2 (qnx x.1 x.2.1 (qnx x.1 x.2.1 p)) = 2 := fun q => cu41 ((cT_nks T2).2.1.mp q)
                        exact h0 1 (qnx x.1 x.2.1 (qnx x.1 x.2.1 p)) (σ 102 4 + 1) _ (by decide) (fun b L => qN_of ((qop_s (by omega) hlim).trans ((if_pos e3).trans (if_neg e4))) (by decide)) (cFl_of T2) (cSf_cg F2 cg_fl)
                      · exfalso; have := vu41 cu41; omega
                      · have wu41 := vu41 cu41
                        clear vu41 du41 eu41
                        refine And.intro (fun (c42 : ¬ (σ2 7 6) = (-1)) => ?_) (fun (c43 : (σ2 7 6) = (-1)) => ?_)
                        · refine And.intro (show -2147483648 ≤ ((σ1 7 6) * 100) ∧ ((σ1 7 6) * 100) ≤ 2147483647 from by omega) ?_
                          refine And.intro (show -2147483648 ≤ (((σ1 7 6) * 100) + (σ2 7 6)) ∧ (((σ1 7 6) * 100) + (σ2 7 6)) ≤ 2147483647 from by omega) ?_
                          refine And.intro (show ((0 : Int) ≤ r9 ∧ r9 ≤ 29) ∧ 0 ≤ (((σ1 7 6) * 100) + (σ2 7 6)) ∧ (((σ1 7 6) * 100) + (σ2 7 6)) ≤ 6299 from by omega) (fun (σ3 : vS) g3 n3 => ?_)
                          have T3 : cT x (qnx x.1 x.2.1 (qnx x.1 x.2.1 p)) σ3 := cT_sg T2 g3
                          have F3 : cSf σ σ3 := cSf_sg F2 g3
                          have N3 : σ3 102 4 = (σ 102 4) + 1 := n3.trans N2
                          have y3 : σ3 7 4 = σ2 7 4 := congrFun (g3 7 (by decide)) 4
                          have hk4 : ¬ qkd x.1 x.2.1 x.2.2 (qnx x.1 x.2.1 (qnx x.1 x.2.1 p)) = 0 ∧ ¬ qkd x.1 x.2.1 x.2.2 (qnx x.1 x.2.1 (qnx x.1 x.2.1 p)) = 4 := by first | exact (cT_nks T3).1 (by omega) | omega
                          refine And.intro (cT_nx ⟨T3, hk4⟩) (fun s4 (σ4 : vS) ha4 f4 t4_ => ?_)
                          have T4 : cT x (qnx x.1 x.2.1 (qnx x.1 x.2.1 (qnx x.1 x.2.1 p))) σ4 := cT_next T3 hk4 ha4 f4 t4_
                          have F4 : cSf σ σ4 := cSf_cg F3 (cg_of f4)
                          clear ha4
                          have N4 : σ4 102 4 = (σ 102 4) + 1 := (congrFun ((cg_of f4).1 102 (by decide)) 4).trans N3
                          refine And.intro (show 0 ≤ 1 ∧ 1 ≤ 1 from by omega) ?_
                          refine And.intro (show 0 ≤ 1 ∧ 1 ≤ 1 from by omega) ?_
                          have hB := (cT_bg hT).2.2.1 (by omega)
                          have e3 : qsg3 x (qnx x.1 x.2.1 p) = true := (cT_s3 T1).mpr (by omega)
                          have e4 : qkd x.1 x.2.1 x.2.2 (qnx x.1 x.2.1 (qnx x.1 x.2.1 p)) = 2 := (cT_nks T2).2.1.mpr cu41
                          exact h1 (qnx x.1 x.2.1 (qnx x.1 x.2.1 (qnx x.1 x.2.1 p))) σ4 T4 F4 ⟨by rw [N4]; exact Int.le_refl _, by rw [N4]; exact hon⟩ (fun b L => by rw [N4]; exact (qN_og hT hn ((qop_s (by omega) hlim).trans ((if_pos e3).trans (if_pos e4)))).trans qN_d)
                        · refine And.intro (show 0 ≤ 0 ∧ 0 ≤ 1 from by omega) ?_
                          refine And.intro (show 0 ≤ 0 ∧ 0 ≤ 1 from by omega) ?_
                          exfalso; omega
                    · refine And.intro (fun (q : ¬ 0 = 0) => absurd q (by decide)) (fun _ => ?_)
                      refine And.intro (cT_fl T1 (by omega)) ?_
                      refine And.intro (show 0 ≤ 0 ∧ 0 ≤ 1 from by omega) ?_
                      refine And.intro (show 0 ≤ 0 ∧ 0 ≤ 1 from by omega) ?_
                      have hB := (cT_bg hT).2.2.1 (by omega)
                      have e3 : ¬ qsg3 x (qnx x.1 x.2.1 p) = true := fun q => by have := (cT_s3 T1).mp q; omega
                      exact h0 1 (qnx x.1 x.2.1 p) (σ 102 4 + 1) _ (by decide) (fun b L => qN_of ((qop_s (by omega) hlim).trans (if_neg e3)) (by decide)) (cFl_of T1) (cSf_cg F1 cg_fl)
            · refine And.intro (cT_fl hT (by omega)) ?_
              refine And.intro (show 0 ≤ 0 ∧ 0 ≤ 1 from by omega) ?_
              have hB : ¬ qbeg x p = -1 := by
                by_cases e : σ 7 6 = 21
                · have := (cT_bg hT).2.1 (by omega); omega
                · have := (cT_bg hT).2.2.1 (by omega); omega
              exact h0 4 p (σ 102 4) _ (by decide) (fun b L => qN_of (qop_4 hB (by omega)) (by decide)) (cFl_of hT) (cSf_cg cSf_refl cg_fl)
        · refine And.intro (cT_fl hT (by omega)) ?_
          refine And.intro (show 0 ≤ 0 ∧ 0 ≤ 1 from by omega) ?_
          have hB : qbeg x p = -1 := (cT_bg hT).2.2.2 t1 (by omega)
          exact h0 1 p (σ 102 4) _ (by decide) (fun b L => qN_of (qop_1 hB) (by decide)) (cFl_of hT) (cSf_cg cSf_refl cg_fl)
  · exact absurd h id
theorem vt_52z_2 (X : zX gKX E) (B : zB E) (i55 : zOKR E md72 w gr_55_2 (vt55 2)) {d bo i : Int} (hK : K (some (.inl 0)) σ) : zGC E md72 w gr_52_2.1 15 [(0, .inr (.inl 102)), (1, .inr (.inl 7)), (2, .inr (.inl 93)), (3, .inl d), (4, .inl 0), (5, .inl bo), (6, .inl i)] σ K := by
  refine zbdC (fun hb => zgoR (⟨rfl, rfl, rfl⟩ : zalt gr_52_2 (gm_52, 8)) (⟨rfl, rfl, rfl⟩ : zalt gr_55_2 (gm_55, 7)) X B zOKR_no i55 (vLA_ok X B) (by decide) [] [(15, [0, 1, 2, 3, 4, 5, 6])] (fun m => Nat.beq m.2.2.2.2.2.2.length 59) (by decide +kernel) ?_)
  refine And.intro (fun _ => ?_) (fun (q : ¬ 0 = 0) => absurd q (by decide))
  refine And.intro (show 0 ≤ 0 ∧ 0 ≤ 1 from by omega) ?_
  exact hK
set_option maxRecDepth 16384 in
theorem vt_52l_2 (X : zX gKX E) (B : zB E) (i55 : zOKR E md72 w gr_55_2 (vt55 2)) {d o0 p0 : Int} {x : qX} {S : qS} {σ0 : vS} (hd : d = 2) (hS0 : cSn S σ0) (hn : x.2.1 ≤ 940) (h0 : ∀ (k p2 o2 : Int) (σ2 : vS), ¬ k = 0 → (∀ L : List Int, qN x S false d d L o0 p0 = (k, p2, o2)) → cFl x k p2 σ2 → cSf σ0 σ2 → K (some (.inl 0)) σ2) (h1 : ∀ (p2 : Int) (σ2 : vS), cT x p2 σ2 → cSf σ0 σ2 → (o0 + 1 ≤ σ2 102 4 ∧ σ2 102 4 ≤ 20) → (∀ L : List Int, qN x S false d d L o0 p0 = qN x S true d d L (σ2 102 4) p2) → ¬ (qisw x p2 (qrw 20) = true ∨ qisw x p2 (qrw 19) = true) → K (some (.inl 1)) σ2) : ∀ (m : Nat) (bo i : Int) (σ : vS) (p : Int), 21 - i < (m : Int) → 0 ≤ i → (0 ≤ bo ∧ bo ≤ 1) → i + 1 ≤ σ 102 4 → cT x p σ → cSf σ0 σ → (o0 + 1 ≤ σ 102 4 ∧ σ 102 4 ≤ 20) → (∀ L : List Int, qN x S false d d L o0 p0 = qN x S true d d L (σ 102 4) p) → zGC E md72 w gr_52_2.1 15 [(0, .inr (.inl 102)), (1, .inr (.inl 7)), (2, .inr (.inl 93)), (3, .inl d), (4, .inl 1), (5, .inl bo), (6, .inl i)] σ K := by
  intro m
  induction m with
  | zero => intro bo i σ p h a c e; omega
  | succ m ih =>
    intro bo i σ p hm hi hbo hio hT hF ho hq
    have hS := cSn_f hS0 hF
    refine zbdC (fun hb => zgoR (⟨rfl, rfl, rfl⟩ : zalt gr_52_2 (gm_52, 8)) (⟨rfl, rfl, rfl⟩ : zalt gr_55_2 (gm_55, 7)) X B zOKR_no i55 (vLA_ok X B) (by decide) [] [(15, [0, 1, 2, 3, 4, 5, 6])] (fun m => Nat.beq m.2.2.2.2.2.2.length 59) (by decide +kernel) ?_)
    refine And.intro (fun (q : 1 = 0) => absurd q (by decide)) (fun _ => ?_)
    refine And.intro (fun (c1 : 20 < i) => ?_) (fun (c2 : i ≤ 20) => ?_)
    · refine And.intro (show 0 ≤ 0 ∧ 0 ≤ 1 from by omega) ?_
      exfalso; omega
    · refine fun (r3 : Int) (t4 : (σ 7 4 = 2 ∧ r3 = σ 7 6) ∨ (¬ σ 7 4 = 2 ∧ r3 = -1)) => ?_
      refine And.intro (fun (c5 : bo = 0) => ?_) (fun (c6 : ¬ bo = 0) => ?_)
      · refine And.intro (fun (c7 : r3 = 20) => ?_) (fun (c8 : ¬ r3 = 20) => ?_)
        · have hj : qisw x p (qrw 20) = true ∨ qisw x p (qrw 19) = true := by
            by_cases e : r3 = 20
            · exact Or.inl ((cT_kws hT (by decide)).mpr (by omega))
            · exact Or.inr ((cT_kws hT (by decide)).mpr (by omega))
          have eJ : ∀ L : List Int, qN x S true d d L (σ 102 4) p = qN x S false d d L (σ 102 4) (qnx x.1 x.2.1 p) := fun L => qN_jn hT hn hj
          have hkj : qkd x.1 x.2.1 x.2.2 p = 1 := hj.elim qisw_k qisw_k
          have hk1 : ¬ qkd x.1 x.2.1 x.2.2 p = 0 ∧ ¬ qkd x.1 x.2.1 x.2.2 p = 4 := by first | exact (cT_nks hT).1 (by omega) | omega
          refine And.intro (cT_nx ⟨hT, hk1⟩) (fun s1 (σ1 : vS) ha1 f1 t1_ => ?_)
          have T1 : cT x (qnx x.1 x.2.1 p) σ1 := cT_next hT hk1 ha1 f1 t1_
          have F1 : cSf σ σ1 := cSf_cg cSf_refl (cg_of f1)
          clear ha1
          have N1 : σ1 102 4 = σ 102 4 := congrFun ((cg_of f1).1 102 (by decide)) 4
          refine ⟨show d = 2 from by omega, x, (qnx x.1 x.2.1 p), S, ⟨T1, cSn_f hS F1, hn⟩, fun k2 p2 o2 (σ2 : vS) hk2 (q2 : (∀ (b : Int) (L : List Int), qN x S false d b L (σ1 102 4) (qnx x.1 x.2.1 p) = (k2, p2, o2))) fl2 g2 => ?_, fun p2 (σ2 : vS) (T2 : cT x p2 σ2) g2 m2 (q2 : (∀ (b : Int) (L : List Int), qN x S false d b L (σ1 102 4) (qnx x.1 x.2.1 p) = qN x S true b b L (σ2 102 4) p2)) => ?_⟩
          · rw [N1] at q2
            have F2 : cSf σ σ2 := cSf_tr F1 g2
            refine And.intro (fun (q : ¬ r3 = 20) => (by exfalso; omega)) (fun _ => ?_)
            refine And.intro (show ((0 : Int) ≤ 20 ∧ 20 ≤ 29) ∧ 0 ≤ 0 ∧ 0 ≤ 6299 from by omega) (fun (σ3 : vS) g3 n3 => ?_)
            have F3 : cSf σ σ3 := cSf_sg F2 g3
            have y3 : σ3 7 4 = σ2 7 4 := congrFun (g3 7 (by decide)) 4
            refine And.intro (show -2147483648 ≤ (i + 1) ∧ (i + 1) ≤ 2147483647 from by omega) ?_
            show zGC E md72 w gr_52_2.1 15 [(0, .inr (.inl 102)), (1, .inr (.inl 7)), (2, .inr (.inl 93)), (3, .inl d), (4, .inl 0), (5, .inl bo), (6, .inl (i + 1))] σ3 K
            exact vt_52z_2 X B i55 (h0 k2 p2 o2 σ3 hk2 (fun L => ((hq L).trans (eJ L)).trans (q2 d L)) (cFl_sg fl2 g3) (cSf_tr hF F3))
          · rw [N1] at q2 m2
            have F2 : cSf σ σ2 := cSf_tr F1 g2
            refine And.intro (fun (q : ¬ r3 = 20) => (by exfalso; omega)) (fun _ => ?_)
            refine And.intro (show ((0 : Int) ≤ 20 ∧ 20 ≤ 29) ∧ 0 ≤ 0 ∧ 0 ≤ 6299 from by omega) (fun (σ3 : vS) g3 n3 => ?_)
            have T3 : cT x p2 σ3 := cT_sg T2 g3
            have F3 : cSf σ σ3 := cSf_sg F2 g3
            have N3 : σ3 102 4 = σ2 102 4 := n3
            have y3 : σ3 7 4 = σ2 7 4 := congrFun (g3 7 (by decide)) 4
            refine And.intro (show -2147483648 ≤ (i + 1) ∧ (i + 1) ≤ 2147483647 from by omega) ?_
            show zGC E md72 w gr_52_2.1 15 [(0, .inr (.inl 102)), (1, .inr (.inl 7)), (2, .inr (.inl 93)), (3, .inl d), (4, .inl 1), (5, .inl bo), (6, .inl (i + 1))] σ3 K
            exact ih bo (i + 1) σ3 p2 (by omega) (by omega) (by omega) (by omega) T3 (cSf_tr hF F3) (by omega) (fun L => by rw [N3]; exact ((hq L).trans (eJ L)).trans (q2 d L))
        · refine And.intro (fun (c9 : r3 = 19) => ?_) (fun (c10 : ¬ r3 = 19) => ?_)
          · have hj : qisw x p (qrw 20) = true ∨ qisw x p (qrw 19) = true := by
              by_cases e : r3 = 20
              · exact Or.inl ((cT_kws hT (by decide)).mpr (by omega))
              · exact Or.inr ((cT_kws hT (by decide)).mpr (by omega))
            have eJ : ∀ L : List Int, qN x S true d d L (σ 102 4) p = qN x S false d d L (σ 102 4) (qnx x.1 x.2.1 p) := fun L => qN_jn hT hn hj
            have hkj : qkd x.1 x.2.1 x.2.2 p = 1 := hj.elim qisw_k qisw_k
            have hk1 : ¬ qkd x.1 x.2.1 x.2.2 p = 0 ∧ ¬ qkd x.1 x.2.1 x.2.2 p = 4 := by first | exact (cT_nks hT).1 (by omega) | omega
            refine And.intro (cT_nx ⟨hT, hk1⟩) (fun s1 (σ1 : vS) ha1 f1 t1_ => ?_)
            have T1 : cT x (qnx x.1 x.2.1 p) σ1 := cT_next hT hk1 ha1 f1 t1_
            have F1 : cSf σ σ1 := cSf_cg cSf_refl (cg_of f1)
            clear ha1
            have N1 : σ1 102 4 = σ 102 4 := congrFun ((cg_of f1).1 102 (by decide)) 4
            refine ⟨show d = 2 from by omega, x, (qnx x.1 x.2.1 p), S, ⟨T1, cSn_f hS F1, hn⟩, fun k2 p2 o2 (σ2 : vS) hk2 (q2 : (∀ (b : Int) (L : List Int), qN x S false d b L (σ1 102 4) (qnx x.1 x.2.1 p) = (k2, p2, o2))) fl2 g2 => ?_, fun p2 (σ2 : vS) (T2 : cT x p2 σ2) g2 m2 (q2 : (∀ (b : Int) (L : List Int), qN x S false d b L (σ1 102 4) (qnx x.1 x.2.1 p) = qN x S true b b L (σ2 102 4) p2)) => ?_⟩
            · rw [N1] at q2
              have F2 : cSf σ σ2 := cSf_tr F1 g2
              refine And.intro (fun _ => ?_) (fun (q : r3 = 20) => (by exfalso; omega))
              refine And.intro (show -2147483648 ≤ (i + 1) ∧ (i + 1) ≤ 2147483647 from by omega) ?_
              show zGC E md72 w gr_52_2.1 15 [(0, .inr (.inl 102)), (1, .inr (.inl 7)), (2, .inr (.inl 93)), (3, .inl d), (4, .inl 0), (5, .inl 1), (6, .inl (i + 1))] σ2 K
              exact vt_52z_2 X B i55 (h0 k2 p2 o2 σ2 hk2 (fun L => ((hq L).trans (eJ L)).trans (q2 d L)) fl2 (cSf_tr hF F2))
            · rw [N1] at q2 m2
              have F2 : cSf σ σ2 := cSf_tr F1 g2
              refine And.intro (fun _ => ?_) (fun (q : r3 = 20) => (by exfalso; omega))
              refine And.intro (show -2147483648 ≤ (i + 1) ∧ (i + 1) ≤ 2147483647 from by omega) ?_
              show zGC E md72 w gr_52_2.1 15 [(0, .inr (.inl 102)), (1, .inr (.inl 7)), (2, .inr (.inl 93)), (3, .inl d), (4, .inl 1), (5, .inl 1), (6, .inl (i + 1))] σ2 K
              exact ih 1 (i + 1) σ2 p2 (by omega) (by omega) (by omega) (by omega) T2 (cSf_tr hF F2) (by omega) (fun L => by exact ((hq L).trans (eJ L)).trans (q2 d L))
          · refine And.intro (show 0 ≤ 1 ∧ 1 ≤ 1 from by omega) ?_
            have hj : ¬ (qisw x p (qrw 20) = true ∨ qisw x p (qrw 19) = true) := fun q => q.elim (fun q => by have := (cT_kws hT (j := 20) (by decide)).mp q; omega) (fun q => by have := (cT_kws hT (j := 19) (by decide)).mp q; omega)
            exact h1 p σ hT (cSf_tr hF cSf_refl) (by omega) (fun L => by exact hq L) hj
      · refine And.intro (fun (c11 : r3 = 20) => ?_) (fun (c12 : ¬ r3 = 20) => ?_)
        · refine And.intro (fun _ => ?_) (fun (q : ¬ r3 = 20) => (by exfalso; omega))
          have hj : qisw x p (qrw 20) = true ∨ qisw x p (qrw 19) = true := by
            by_cases e : r3 = 20
            · exact Or.inl ((cT_kws hT (by decide)).mpr (by omega))
            · exact Or.inr ((cT_kws hT (by decide)).mpr (by omega))
          have eJ : ∀ L : List Int, qN x S true d d L (σ 102 4) p = qN x S false d d L (σ 102 4) (qnx x.1 x.2.1 p) := fun L => qN_jn hT hn hj
          have hkj : qkd x.1 x.2.1 x.2.2 p = 1 := hj.elim qisw_k qisw_k
          have hk1 : ¬ qkd x.1 x.2.1 x.2.2 p = 0 ∧ ¬ qkd x.1 x.2.1 x.2.2 p = 4 := by first | exact (cT_nks hT).1 (by omega) | omega
          refine And.intro (cT_nx ⟨hT, hk1⟩) (fun s1 (σ1 : vS) ha1 f1 t1_ => ?_)
          have T1 : cT x (qnx x.1 x.2.1 p) σ1 := cT_next hT hk1 ha1 f1 t1_
          have F1 : cSf σ σ1 := cSf_cg cSf_refl (cg_of f1)
          clear ha1
          have N1 : σ1 102 4 = σ 102 4 := congrFun ((cg_of f1).1 102 (by decide)) 4
          refine ⟨show d = 2 from by omega, x, (qnx x.1 x.2.1 p), S, ⟨T1, cSn_f hS F1, hn⟩, fun k2 p2 o2 (σ2 : vS) hk2 (q2 : (∀ (b : Int) (L : List Int), qN x S false d b L (σ1 102 4) (qnx x.1 x.2.1 p) = (k2, p2, o2))) fl2 g2 => ?_, fun p2 (σ2 : vS) (T2 : cT x p2 σ2) g2 m2 (q2 : (∀ (b : Int) (L : List Int), qN x S false d b L (σ1 102 4) (qnx x.1 x.2.1 p) = qN x S true b b L (σ2 102 4) p2)) => ?_⟩
          · rw [N1] at q2
            have F2 : cSf σ σ2 := cSf_tr F1 g2
            refine And.intro (fun (q : ¬ r3 = 20) => (by exfalso; omega)) (fun _ => ?_)
            refine And.intro (show ((0 : Int) ≤ 20 ∧ 20 ≤ 29) ∧ 0 ≤ 0 ∧ 0 ≤ 6299 from by omega) (fun (σ3 : vS) g3 n3 => ?_)
            have F3 : cSf σ σ3 := cSf_sg F2 g3
            have y3 : σ3 7 4 = σ2 7 4 := congrFun (g3 7 (by decide)) 4
            refine And.intro (show -2147483648 ≤ (i + 1) ∧ (i + 1) ≤ 2147483647 from by omega) ?_
            show zGC E md72 w gr_52_2.1 15 [(0, .inr (.inl 102)), (1, .inr (.inl 7)), (2, .inr (.inl 93)), (3, .inl d), (4, .inl 0), (5, .inl bo), (6, .inl (i + 1))] σ3 K
            exact vt_52z_2 X B i55 (h0 k2 p2 o2 σ3 hk2 (fun L => ((hq L).trans (eJ L)).trans (q2 d L)) (cFl_sg fl2 g3) (cSf_tr hF F3))
          · rw [N1] at q2 m2
            have F2 : cSf σ σ2 := cSf_tr F1 g2
            refine And.intro (fun (q : ¬ r3 = 20) => (by exfalso; omega)) (fun _ => ?_)
            refine And.intro (show ((0 : Int) ≤ 20 ∧ 20 ≤ 29) ∧ 0 ≤ 0 ∧ 0 ≤ 6299 from by omega) (fun (σ3 : vS) g3 n3 => ?_)
            have T3 : cT x p2 σ3 := cT_sg T2 g3
            have F3 : cSf σ σ3 := cSf_sg F2 g3
            have N3 : σ3 102 4 = σ2 102 4 := n3
            have y3 : σ3 7 4 = σ2 7 4 := congrFun (g3 7 (by decide)) 4
            refine And.intro (show -2147483648 ≤ (i + 1) ∧ (i + 1) ≤ 2147483647 from by omega) ?_
            show zGC E md72 w gr_52_2.1 15 [(0, .inr (.inl 102)), (1, .inr (.inl 7)), (2, .inr (.inl 93)), (3, .inl d), (4, .inl 1), (5, .inl bo), (6, .inl (i + 1))] σ3 K
            exact ih bo (i + 1) σ3 p2 (by omega) (by omega) (by omega) (by omega) T3 (cSf_tr hF F3) (by omega) (fun L => by rw [N3]; exact ((hq L).trans (eJ L)).trans (q2 d L))
        · refine And.intro (show ((0 : Int) ≤ 19 ∧ 19 ≤ 29) ∧ 0 ≤ 0 ∧ 0 ≤ 6299 from by omega) (fun (σ1 : vS) g1 n1 => ?_)
          have T1 : cT x p σ1 := cT_sg hT g1
          have F1 : cSf σ σ1 := cSf_sg cSf_refl g1
          have N1 : σ1 102 4 = σ 102 4 := n1
          have y1 : σ1 7 4 = σ 7 4 := congrFun (g1 7 (by decide)) 4
          refine And.intro (fun (c13 : r3 = 20) => ?_) (fun (c14 : ¬ r3 = 20) => ?_)
          · have hj : qisw x p (qrw 20) = true ∨ qisw x p (qrw 19) = true := by
              by_cases e : r3 = 20
              · exact Or.inl ((cT_kws hT (by decide)).mpr (by omega))
              · exact Or.inr ((cT_kws hT (by decide)).mpr (by omega))
            have eJ : ∀ L : List Int, qN x S true d d L (σ 102 4) p = qN x S false d d L (σ 102 4) (qnx x.1 x.2.1 p) := fun L => qN_jn hT hn hj
            have hkj : qkd x.1 x.2.1 x.2.2 p = 1 := hj.elim qisw_k qisw_k
            have hk2 : ¬ qkd x.1 x.2.1 x.2.2 p = 0 ∧ ¬ qkd x.1 x.2.1 x.2.2 p = 4 := by first | exact (cT_nks T1).1 (by omega) | omega
            refine And.intro (cT_nx ⟨T1, hk2⟩) (fun s2 (σ2 : vS) ha2 f2 t2_ => ?_)
            have T2 : cT x (qnx x.1 x.2.1 p) σ2 := cT_next T1 hk2 ha2 f2 t2_
            have F2 : cSf σ σ2 := cSf_cg F1 (cg_of f2)
            clear ha2
            have N2 : σ2 102 4 = σ 102 4 := (congrFun ((cg_of f2).1 102 (by decide)) 4).trans N1
            refine ⟨show d = 2 from by omega, x, (qnx x.1 x.2.1 p), S, ⟨T2, cSn_f hS F2, hn⟩, fun k3 p3 o3 (σ3 : vS) hk3 (q3 : (∀ (b : Int) (L : List Int), qN x S false d b L (σ2 102 4) (qnx x.1 x.2.1 p) = (k3, p3, o3))) fl3 g3 => ?_, fun p3 (σ3 : vS) (T3 : cT x p3 σ3) g3 m3 (q3 : (∀ (b : Int) (L : List Int), qN x S false d b L (σ2 102 4) (qnx x.1 x.2.1 p) = qN x S true b b L (σ3 102 4) p3)) => ?_⟩
            · rw [N2] at q3
              have F3 : cSf σ σ3 := cSf_tr F2 g3
              refine And.intro (fun (q : ¬ r3 = 20) => (by exfalso; omega)) (fun _ => ?_)
              refine And.intro (show ((0 : Int) ≤ 20 ∧ 20 ≤ 29) ∧ 0 ≤ 0 ∧ 0 ≤ 6299 from by omega) (fun (σ4 : vS) g4 n4 => ?_)
              have F4 : cSf σ σ4 := cSf_sg F3 g4
              have y4 : σ4 7 4 = σ3 7 4 := congrFun (g4 7 (by decide)) 4
              refine And.intro (show -2147483648 ≤ (i + 1) ∧ (i + 1) ≤ 2147483647 from by omega) ?_
              show zGC E md72 w gr_52_2.1 15 [(0, .inr (.inl 102)), (1, .inr (.inl 7)), (2, .inr (.inl 93)), (3, .inl d), (4, .inl 0), (5, .inl 0), (6, .inl (i + 1))] σ4 K
              exact vt_52z_2 X B i55 (h0 k3 p3 o3 σ4 hk3 (fun L => ((hq L).trans (eJ L)).trans (q3 d L)) (cFl_sg fl3 g4) (cSf_tr hF F4))
            · rw [N2] at q3 m3
              have F3 : cSf σ σ3 := cSf_tr F2 g3
              refine And.intro (fun (q : ¬ r3 = 20) => (by exfalso; omega)) (fun _ => ?_)
              refine And.intro (show ((0 : Int) ≤ 20 ∧ 20 ≤ 29) ∧ 0 ≤ 0 ∧ 0 ≤ 6299 from by omega) (fun (σ4 : vS) g4 n4 => ?_)
              have T4 : cT x p3 σ4 := cT_sg T3 g4
              have F4 : cSf σ σ4 := cSf_sg F3 g4
              have N4 : σ4 102 4 = σ3 102 4 := n4
              have y4 : σ4 7 4 = σ3 7 4 := congrFun (g4 7 (by decide)) 4
              refine And.intro (show -2147483648 ≤ (i + 1) ∧ (i + 1) ≤ 2147483647 from by omega) ?_
              show zGC E md72 w gr_52_2.1 15 [(0, .inr (.inl 102)), (1, .inr (.inl 7)), (2, .inr (.inl 93)), (3, .inl d), (4, .inl 1), (5, .inl 0), (6, .inl (i + 1))] σ4 K
              exact ih 0 (i + 1) σ4 p3 (by omega) (by omega) (by omega) (by omega) T4 (cSf_tr hF F4) (by omega) (fun L => by rw [N4]; exact ((hq L).trans (eJ L)).trans (q3 d L))
          · refine And.intro (fun (c15 : r3 = 19) => ?_) (fun (c16 : ¬ r3 = 19) => ?_)
            · have hj : qisw x p (qrw 20) = true ∨ qisw x p (qrw 19) = true := by
                by_cases e : r3 = 20
                · exact Or.inl ((cT_kws hT (by decide)).mpr (by omega))
                · exact Or.inr ((cT_kws hT (by decide)).mpr (by omega))
              have eJ : ∀ L : List Int, qN x S true d d L (σ 102 4) p = qN x S false d d L (σ 102 4) (qnx x.1 x.2.1 p) := fun L => qN_jn hT hn hj
              have hkj : qkd x.1 x.2.1 x.2.2 p = 1 := hj.elim qisw_k qisw_k
              have hk2 : ¬ qkd x.1 x.2.1 x.2.2 p = 0 ∧ ¬ qkd x.1 x.2.1 x.2.2 p = 4 := by first | exact (cT_nks T1).1 (by omega) | omega
              refine And.intro (cT_nx ⟨T1, hk2⟩) (fun s2 (σ2 : vS) ha2 f2 t2_ => ?_)
              have T2 : cT x (qnx x.1 x.2.1 p) σ2 := cT_next T1 hk2 ha2 f2 t2_
              have F2 : cSf σ σ2 := cSf_cg F1 (cg_of f2)
              clear ha2
              have N2 : σ2 102 4 = σ 102 4 := (congrFun ((cg_of f2).1 102 (by decide)) 4).trans N1
              refine ⟨show d = 2 from by omega, x, (qnx x.1 x.2.1 p), S, ⟨T2, cSn_f hS F2, hn⟩, fun k3 p3 o3 (σ3 : vS) hk3 (q3 : (∀ (b : Int) (L : List Int), qN x S false d b L (σ2 102 4) (qnx x.1 x.2.1 p) = (k3, p3, o3))) fl3 g3 => ?_, fun p3 (σ3 : vS) (T3 : cT x p3 σ3) g3 m3 (q3 : (∀ (b : Int) (L : List Int), qN x S false d b L (σ2 102 4) (qnx x.1 x.2.1 p) = qN x S true b b L (σ3 102 4) p3)) => ?_⟩
              · rw [N2] at q3
                have F3 : cSf σ σ3 := cSf_tr F2 g3
                refine And.intro (fun _ => ?_) (fun (q : r3 = 20) => (by exfalso; omega))
                refine And.intro (show -2147483648 ≤ (i + 1) ∧ (i + 1) ≤ 2147483647 from by omega) ?_
                show zGC E md72 w gr_52_2.1 15 [(0, .inr (.inl 102)), (1, .inr (.inl 7)), (2, .inr (.inl 93)), (3, .inl d), (4, .inl 0), (5, .inl 1), (6, .inl (i + 1))] σ3 K
                exact vt_52z_2 X B i55 (h0 k3 p3 o3 σ3 hk3 (fun L => ((hq L).trans (eJ L)).trans (q3 d L)) fl3 (cSf_tr hF F3))
              · rw [N2] at q3 m3
                have F3 : cSf σ σ3 := cSf_tr F2 g3
                refine And.intro (fun _ => ?_) (fun (q : r3 = 20) => (by exfalso; omega))
                refine And.intro (show -2147483648 ≤ (i + 1) ∧ (i + 1) ≤ 2147483647 from by omega) ?_
                show zGC E md72 w gr_52_2.1 15 [(0, .inr (.inl 102)), (1, .inr (.inl 7)), (2, .inr (.inl 93)), (3, .inl d), (4, .inl 1), (5, .inl 1), (6, .inl (i + 1))] σ3 K
                exact ih 1 (i + 1) σ3 p3 (by omega) (by omega) (by omega) (by omega) T3 (cSf_tr hF F3) (by omega) (fun L => by exact ((hq L).trans (eJ L)).trans (q3 d L))
            · refine And.intro (show 0 ≤ 1 ∧ 1 ≤ 1 from by omega) ?_
              have hj : ¬ (qisw x p (qrw 20) = true ∨ qisw x p (qrw 19) = true) := fun q => q.elim (fun q => by have := (cT_kws hT (j := 20) (by decide)).mp q; omega) (fun q => by have := (cT_kws hT (j := 19) (by decide)).mp q; omega)
              exact h1 p σ1 T1 (cSf_tr hF F1) (by omega) (fun L => by rw [N1]; exact hq L) hj
set_option maxRecDepth 16384 in
theorem vt_52_2 (X : zX gKX E) (B : zB E) (i55 : zOKR E md72 w gr_55_2 (vt55 2)) : zOKR E md72 w gr_52_2 (vt52 2) := by
  intro vs σ K h
  unfold vt52 at h
  split at h
  · rename_i d
    obtain ⟨hd, x, p, S, ⟨hT, hS, hn⟩, h0, h1⟩ := h
    show zGC E md72 w gr_52_2.1 0 [(0, .inr (.inl 102)), (1, .inr (.inl 7)), (2, .inr (.inl 93)), (3, .inl d)] σ K
    refine zbdC (fun hb0 => ?_)
    have b4 : 0 ≤ σ 102 4 ∧ σ 102 4 ≤ 20 := zfC hb0 (t := 102) (f := 4) (by decide +kernel)
    refine zbdC (fun hb => zgoR (⟨rfl, rfl, rfl⟩ : zalt gr_52_2 (gm_52, 8)) (⟨rfl, rfl, rfl⟩ : zalt gr_55_2 (gm_55, 7)) X B zOKR_no i55 (vLA_ok X B) (by decide) [] [(15, [0, 1, 2, 3, 4, 5, 6])] (fun m => Nat.beq m.2.2.2.2.2.2.length 59) (by decide +kernel) ?_)
    refine ⟨show d = 2 from by omega, x, p, S, ⟨hT, cSn_f hS cSf_refl, hn⟩, fun k1 p1 o1 (σ1 : vS) hk1 (q1 : (∀ (b : Int) (L : List Int), qN x S false d b L (σ 102 4) p = (k1, p1, o1))) fl1 g1 => ?_, fun p1 (σ1 : vS) (T1 : cT x p1 σ1) g1 m1 (q1 : (∀ (b : Int) (L : List Int), qN x S false d b L (σ 102 4) p = qN x S true b b L (σ1 102 4) p1)) => ?_⟩
    · have F1 : cSf σ σ1 := cSf_tr cSf_refl g1
      show zGC E md72 w gr_52_2.1 15 [(0, .inr (.inl 102)), (1, .inr (.inl 7)), (2, .inr (.inl 93)), (3, .inl d), (4, .inl 0), (5, .inl 0), (6, .inl 0)] σ1 K
      exact vt_52z_2 X B i55 (h0 k1 p1 o1 σ1 hk1 (fun L => q1 d L) fl1 F1)
    · have F1 : cSf σ σ1 := cSf_tr cSf_refl g1
      show zGC E md72 w gr_52_2.1 15 [(0, .inr (.inl 102)), (1, .inr (.inl 7)), (2, .inr (.inl 93)), (3, .inl d), (4, .inl 1), (5, .inl 0), (6, .inl 0)] σ1 K
      exact vt_52l_2 X B i55 hd hS hn h0 h1 22 0 0 σ1 p1 (by omega) (by omega) (by omega) (by omega) T1 F1 (by omega) (fun L => q1 d L)
  · exact absurd h id
set_option maxRecDepth 16384 in
theorem vt_55_1 (X : zX gKX E) (B : zB E) (i55 : zOKR E md72 w gr_55_2 (vt55 2)) (i52 : zOKR E md72 w gr_52_2 (vt52 2)) : zOKR E md72 w gr_55_1 (vt55 1) := by
  intro vs σ K h
  unfold vt55 at h
  split at h
  · rename_i d
    obtain ⟨hd, x, p, S, ⟨hT, hS, hn⟩, h0, h1⟩ := h
    show zGC E md72 w gr_55_1.1 0 [(0, .inr (.inl 102)), (1, .inr (.inl 7)), (2, .inr (.inl 93)), (3, .inl d)] σ K
    refine zbdC (fun hb => zgoR (⟨rfl, rfl, rfl⟩ : zalt gr_52_2 (gm_52, 8)) (⟨rfl, rfl, rfl⟩ : zalt gr_55_2 (gm_55, 7)) X B i52 i55 (vLA_ok X B) (by decide) [] [] (fun m => false) (by decide +kernel) ?_)
    refine fun z (t1 : (z = 1 ∧ σ 7 4 = 5 ∧ σ 7 6 = 40) ∨ (z = 0 ∧ ¬ (σ 7 4 = 5 ∧ σ 7 6 = 40))) => ?_
    rcases t1 with ⟨rfl, t1⟩ | ⟨rfl, t1⟩
    · refine fun (r2 : Int) (t3 : (σ 7 4 = 2 ∧ r2 = σ 7 6) ∨ (¬ σ 7 4 = 2 ∧ r2 = -1)) => ?_
      refine And.intro (fun _ => ?_) (fun (q : 1 = 0) => absurd q (by decide))
      have f4 : 0 ≤ σ 102 4 ∧ σ 102 4 ≤ 20 := zfC hb (t := 102) (f := 4) (by decide +kernel)
      refine And.intro (fun (c5 : 20 ≤ (σ 102 4)) => ?_) (fun (c6 : (σ 102 4) < 20) => ?_)
      · refine And.intro (cT_fl hT (by omega)) ?_
        refine And.intro (show 0 ≤ 0 ∧ 0 ≤ 1 from by omega) ?_
        have hB : ¬ qbeg x p = -1 := by have := (cT_bg hT).1 t1; omega
        exact h0 4 p (σ 102 4) _ (by decide) (fun b L => qN_of (qop_4 hB (by omega)) (by decide)) (cFl_of hT) (cSf_cg cSf_refl cg_fl)
      · refine And.intro (fun (c7 : d ≤ 8) => ?_) (fun (c8 : 8 < d) => ?_)
        · refine And.intro (show -2147483648 ≤ ((σ 102 4) + 1) ∧ ((σ 102 4) + 1) ≤ 2147483647 from by omega) ?_
          refine And.intro (show 0 ≤ ((σ 102 4) + 1) ∧ ((σ 102 4) + 1) ≤ 20 from by omega) ?_
          have hlim : ¬ (σ 102 4 = 20 ∨ 8 < d) := by omega
          have hB : qbeg x p = 9 := (cT_bg hT).1 t1
          have hon : σ 102 4 + 1 ≤ 20 := by omega
          have hk1 : ¬ qkd x.1 x.2.1 x.2.2 p = 0 ∧ ¬ qkd x.1 x.2.1 x.2.2 p = 4 := by first | exact (cT_nks hT).1 (by omega) | omega
          refine And.intro (cT_nx ⟨(cT_t hT (by decide)), hk1⟩) (fun s1 (σ1 : vS) ha1 f1 t1_ => ?_)
          have T1 : cT x (qnx x.1 x.2.1 p) σ1 := cT_next (cT_t hT (by decide)) hk1 ha1 f1 t1_
          have F1 : cSf σ σ1 := cSf_cg (cSf_up (by decide) cSf_refl) (cg_of f1)
          clear ha1
          clear t3
          have N1 : σ1 102 4 = (σ 102 4) + 1 := (congrFun ((cg_of f1).1 102 (by decide)) 4).trans vup_eq
          refine And.intro (fun (q : 1 = 0) => absurd q (by decide)) (fun _ => ?_)
          refine And.intro (show -2147483648 ≤ (d + 1) ∧ (d + 1) ≤ 2147483647 from by omega) ?_
          have eA : ∀ (b : Int) (L : List Int), qN x S false d b L (σ 102 4) p = qN x S false (d + 1) (d + 1) (b :: L) (σ 102 4 + 1) (qnx x.1 x.2.1 p) := fun b L => qN_og hT hn (qop_9 hB hlim)
          refine ⟨show d + 1 = 2 from by omega, x, (qnx x.1 x.2.1 p), S, ⟨T1, cSn_f hS F1, hn⟩, fun k2 p2 o2 (σ2 : vS) hk2 (q2 : (∀ L : List Int, qN x S false (d + 1) (d + 1) L (σ1 102 4) (qnx x.1 x.2.1 p) = (k2, p2, o2))) fl2 g2 => ?_, fun p2 (σ2 : vS) (T2 : cT x p2 σ2) g2 m2 (q2 : (∀ L : List Int, qN x S false (d + 1) (d + 1) L (σ1 102 4) (qnx x.1 x.2.1 p) = qN x S true (d + 1) (d + 1) L (σ2 102 4) p2)) hj2 => ?_⟩
          · rw [N1] at q2
            have F2 : cSf σ σ2 := cSf_tr F1 g2
            refine And.intro (fun _ => ?_) (fun (q : ¬ 0 = 0) => absurd q (by decide))
            refine And.intro (show 0 ≤ 0 ∧ 0 ≤ 1 from by omega) ?_
            exact h0 k2 p2 o2 σ2 hk2 (fun b L => (eA b L).trans (q2 (b :: L))) fl2 F2
          · rw [N1] at q2 m2
            have F2 : cSf σ σ2 := cSf_tr F1 g2
            refine And.intro (fun (q : 1 = 0) => absurd q (by decide)) (fun _ => ?_)
            refine ⟨x, p2, T2, fun e3 (σ3 : vS) fl3 g3 => ?_, fun e3 (σ3 : vS) T3 g3 => ?_⟩
            · have F3 : cSf σ σ3 := cSf_cg F2 g3
              refine And.intro (fun _ => ?_) (fun (q : ¬ 0 = 0) => absurd q (by decide))
              refine And.intro (show 0 ≤ 0 ∧ 0 ≤ 1 from by omega) ?_
              exact h0 1 p2 (σ2 102 4) σ3 (by decide) (fun b L => ((eA b L).trans (q2 (b :: L))).trans (qN_nc hj2 e3)) fl3 F3
            · have F3 : cSf σ σ3 := cSf_cg F2 g3
              have N3 : σ3 102 4 = σ2 102 4 := congrFun (g3.1 102 (by decide)) 4
              refine And.intro (fun (q : 1 = 0) => absurd q (by decide)) (fun _ => ?_)
              refine And.intro (show 0 ≤ 1 ∧ 1 ≤ 1 from by omega) ?_
              exact h1 (qnx x.1 x.2.1 p2) σ3 T3 F3 (by omega) (fun b L => by rw [N3]; exact ((eA b L).trans (q2 (b :: L))).trans (qN_cl T2 hn hj2 e3))
        · refine And.intro (cT_fl hT (by omega)) ?_
          refine And.intro (show 0 ≤ 0 ∧ 0 ≤ 1 from by omega) ?_
          have hB : ¬ qbeg x p = -1 := by have := (cT_bg hT).1 t1; omega
          exact h0 4 p (σ 102 4) _ (by decide) (fun b L => qN_of (qop_4 hB (by omega)) (by decide)) (cFl_of hT) (cSf_cg cSf_refl cg_fl)
    · refine fun (r9 : Int) (t10 : (σ 7 4 = 2 ∧ r9 = σ 7 6) ∨ (¬ σ 7 4 = 2 ∧ r9 = -1)) => ?_
      refine And.intro (fun (q : ¬ 0 = 0) => absurd q (by decide)) (fun _ => ?_)
      refine And.intro (fun (c11 : r9 < 21) => ?_) (fun (c12 : 21 ≤ r9) => ?_)
      · refine And.intro (cT_fl hT (by omega)) ?_
        refine And.intro (show 0 ≤ 0 ∧ 0 ≤ 1 from by omega) ?_
        have hB : qbeg x p = -1 := (cT_bg hT).2.2.2 t1 (by omega)
        exact h0 1 p (σ 102 4) _ (by decide) (fun b L => qN_of (qop_1 hB) (by decide)) (cFl_of hT) (cSf_cg cSf_refl cg_fl)
      · refine And.intro (fun (c13 : r9 ≤ 29) => ?_) (fun (c14 : 29 < r9) => ?_)
        · have f15 : 0 ≤ σ 102 4 ∧ σ 102 4 ≤ 20 := zfC hb (t := 102) (f := 4) (by decide +kernel)
          refine And.intro (fun (c16 : 20 ≤ (σ 102 4)) => ?_) (fun (c17 : (σ 102 4) < 20) => ?_)
          · refine And.intro (cT_fl hT (by omega)) ?_
            refine And.intro (show 0 ≤ 0 ∧ 0 ≤ 1 from by omega) ?_
            have hB : ¬ qbeg x p = -1 := by
              by_cases e : σ 7 6 = 21
              · have := (cT_bg hT).2.1 (by omega); omega
              · have := (cT_bg hT).2.2.1 (by omega); omega
            exact h0 4 p (σ 102 4) _ (by decide) (fun b L => qN_of (qop_4 hB (by omega)) (by decide)) (cFl_of hT) (cSf_cg cSf_refl cg_fl)
          · refine And.intro (fun (c18 : d ≤ 8) => ?_) (fun (c19 : 8 < d) => ?_)
            · refine And.intro (show -2147483648 ≤ ((σ 102 4) + 1) ∧ ((σ 102 4) + 1) ≤ 2147483647 from by omega) ?_
              refine And.intro (show 0 ≤ ((σ 102 4) + 1) ∧ ((σ 102 4) + 1) ≤ 20 from by omega) ?_
              have hlim : ¬ (σ 102 4 = 20 ∨ 8 < d) := by omega
              have hon : σ 102 4 + 1 ≤ 20 := by omega
              have hr : σ 7 4 = 2 ∧ r9 = σ 7 6 := by omega
              have hk1 : ¬ qkd x.1 x.2.1 x.2.2 p = 0 ∧ ¬ qkd x.1 x.2.1 x.2.2 p = 4 := by first | exact (cT_nks hT).1 (by omega) | omega
              refine And.intro (cT_nx ⟨(cT_t hT (by decide)), hk1⟩) (fun s1 (σ1 : vS) ha1 f1 t1_ => ?_)
              have T1 : cT x (qnx x.1 x.2.1 p) σ1 := cT_next (cT_t hT (by decide)) hk1 ha1 f1 t1_
              have F1 : cSf σ σ1 := cSf_cg (cSf_up (by decide) cSf_refl) (cg_of f1)
              clear ha1
              clear t10 t1
              have N1 : σ1 102 4 = (σ 102 4) + 1 := (congrFun ((cg_of f1).1 102 (by decide)) 4).trans vup_eq
              refine And.intro (fun _ => ?_) (fun (q : ¬ 0 = 0) => absurd q (by decide))
              refine And.intro (And.intro (fun (c20 : r9 = 21) => ?_) (And.intro (fun (c21 : r9 = 22) => ?_) (And.intro (fun (c22 : r9 = 23) => ?_) (And.intro (fun (c23 : r9 = 24) => ?_) (And.intro (fun (c24 : r9 = 25) => ?_) (trivial)))))) (fun (c25 : r9 < 21 ∨ 25 < r9) => ?_)
              · refine And.intro (show -2147483648 ≤ (d + 1) ∧ (d + 1) ≤ 2147483647 from by omega) ?_
                have hB : qbeg x p = 8 := (cT_bg hT).2.1 (by omega)
                have eA : ∀ (b : Int) (L : List Int), qN x S false d b L (σ 102 4) p = qN x S false (d + 1) b L (σ 102 4 + 1) (qnx x.1 x.2.1 p) := fun b L => qN_og hT hn (qop_8 hB hlim)
                refine ⟨show d + 1 = 2 from by omega, x, (qnx x.1 x.2.1 p), S, ⟨T1, cSn_f hS F1, hn⟩, fun k2 p2 o2 (σ2 : vS) hk2 (q2 : (∀ (b : Int) (L : List Int), qN x S false (d + 1) b L (σ1 102 4) (qnx x.1 x.2.1 p) = (k2, p2, o2))) fl2 g2 => ?_, fun p2 (σ2 : vS) (T2 : cT x p2 σ2) g2 m2 (q2 : (∀ (b : Int) (L : List Int), qN x S false (d + 1) b L (σ1 102 4) (qnx x.1 x.2.1 p) = qN x S true b b L (σ2 102 4) p2)) => ?_⟩
                · rw [N1] at q2
                  have F2 : cSf σ σ2 := cSf_tr F1 g2
                  refine And.intro (show ((0 : Int) ≤ 21 ∧ 21 ≤ 29) ∧ 0 ≤ 0 ∧ 0 ≤ 6299 from by omega) (fun (σ3 : vS) g3 n3 => ?_)
                  have F3 : cSf σ σ3 := cSf_sg F2 g3
                  have y3 : σ3 7 4 = σ2 7 4 := congrFun (g3 7 (by decide)) 4
                  refine And.intro (show 0 ≤ 0 ∧ 0 ≤ 1 from by omega) ?_
                  exact h0 k2 p2 o2 σ3 hk2 (fun b L => (eA b L).trans (q2 b L)) (cFl_sg fl2 g3) F3
                · rw [N1] at q2 m2
                  have F2 : cSf σ σ2 := cSf_tr F1 g2
                  refine And.intro (show ((0 : Int) ≤ 21 ∧ 21 ≤ 29) ∧ 0 ≤ 0 ∧ 0 ≤ 6299 from by omega) (fun (σ3 : vS) g3 n3 => ?_)
                  have T3 : cT x p2 σ3 := cT_sg T2 g3
                  have F3 : cSf σ σ3 := cSf_sg F2 g3
                  have N3 : σ3 102 4 = σ2 102 4 := n3
                  have y3 : σ3 7 4 = σ2 7 4 := congrFun (g3 7 (by decide)) 4
                  refine And.intro (show 0 ≤ 1 ∧ 1 ≤ 1 from by omega) ?_
                  exact h1 p2 σ3 T3 F3 (by omega) (fun b L => by rw [N3]; exact (eA b L).trans (q2 b L))
              · refine And.intro (show ((0 : Int) ≤ r9 ∧ r9 ≤ 29) ∧ 0 ≤ 0 ∧ 0 ≤ 6299 from by omega) (fun (σ2 : vS) g2 n2 => ?_)
                have T2 : cT x (qnx x.1 x.2.1 p) σ2 := cT_sg T1 g2
                have F2 : cSf σ σ2 := cSf_sg F1 g2
                have N2 : σ2 102 4 = (σ 102 4) + 1 := n2.trans N1
                have y2 : σ2 7 4 = σ1 7 4 := congrFun (g2 7 (by decide)) 4
                refine And.intro (show 0 ≤ 1 ∧ 1 ≤ 1 from by omega) ?_
                have hB := (cT_bg hT).2.2.1 (by omega)
                exact h1 (qnx x.1 x.2.1 p) σ2 T2 F2 ⟨by rw [N2]; exact Int.le_refl _, by rw [N2]; exact hon⟩ (fun b L => by rw [N2]; exact (qN_og hT hn (qop_l (by omega) hlim)).trans qN_d)
              · refine And.intro (show ((0 : Int) ≤ r9 ∧ r9 ≤ 29) ∧ 0 ≤ 0 ∧ 0 ≤ 6299 from by omega) (fun (σ2 : vS) g2 n2 => ?_)
                have T2 : cT x (qnx x.1 x.2.1 p) σ2 := cT_sg T1 g2
                have F2 : cSf σ σ2 := cSf_sg F1 g2
                have N2 : σ2 102 4 = (σ 102 4) + 1 := n2.trans N1
                have y2 : σ2 7 4 = σ1 7 4 := congrFun (g2 7 (by decide)) 4
                refine And.intro (show 0 ≤ 1 ∧ 1 ≤ 1 from by omega) ?_
                have hB := (cT_bg hT).2.2.1 (by omega)
                exact h1 (qnx x.1 x.2.1 p) σ2 T2 F2 ⟨by rw [N2]; exact Int.le_refl _, by rw [N2]; exact hon⟩ (fun b L => by rw [N2]; exact (qN_og hT hn (qop_l (by omega) hlim)).trans qN_d)
              · have hB : qbeg x p = 2 := by have := (cT_bg hT).2.2.1 (by omega); omega
                obtain ⟨r1, r2, r3⟩ := qof_b (x := x) (S := S) (p := (qnx x.1 x.2.1 p)) hS.2 (k := 2) (by omega)
                have eM : ∀ (b : Int) (L : List Int), qop x S.2.2 (S.2.1 0) (S.2.1 1) d b L (σ 102 4) p = if (qofn x S.2.2 (S.2.1 0) (S.2.1 1) 2 (qnx x.1 x.2.1 p)) < 0 then (-(qofn x S.2.2 (S.2.1 0) (S.2.1 1) 2 (qnx x.1 x.2.1 p)), ((qnx x.1 x.2.1 p), true, d, b, L, σ 102 4 + 1)) else (0, (qnx x.1 x.2.1 (qnx x.1 x.2.1 p), true, d, b, L, σ 102 4 + 1)) := fun b L => by
                  have e := qop_m (x := x) (nm := S.2.2) (mh := S.2.1 0) (mo := S.2.1 1) (d := d) (b := b) (L := L) (o := σ 102 4) (p := p) (by omega) hlim
                  rw [hB] at e
                  exact e
                refine ⟨by omega, x, ((qnx x.1 x.2.1 p), S.2), S.2.1 1, T1, (cSn_f hS F1).1, hS.2, fun q => absurd q (by decide), fun _ => ⟨rfl, fun c2 (σ2 : vS) fl2 g2 => ?_, fun c2 => ?_⟩, fun q => absurd q (by decide)⟩
                · clear r3
                  have c2 : (qofn x S.2.2 (S.2.1 0) (S.2.1 1) 2 (qnx x.1 x.2.1 p)) < 0 := c2
                  have fl2 : cFl x (-(qofn x S.2.2 (S.2.1 0) (S.2.1 1) 2 (qnx x.1 x.2.1 p))) (qnx x.1 x.2.1 p) σ2 := fl2
                  have F2 : cSf σ σ2 := cSf_cg F1 g2
                  refine And.intro (fun (q : ¬ (-1) = (-1)) => absurd q (by decide)) (fun _ => ?_)
                  refine And.intro (show 0 ≤ 0 ∧ 0 ≤ 1 from by omega) ?_
                  refine And.intro (show 0 ≤ 0 ∧ 0 ≤ 1 from by omega) ?_
                  exact h0 (-(qofn x S.2.2 (S.2.1 0) (S.2.1 1) 2 (qnx x.1 x.2.1 p))) (qnx x.1 x.2.1 p) (σ 102 4 + 1) σ2 (by omega) (fun b L => qN_of ((eM b L).trans (if_pos c2)) (by omega)) fl2 F2
                · have c2 : 0 ≤ (qofn x S.2.2 (S.2.1 0) (S.2.1 1) 2 (qnx x.1 x.2.1 p)) := c2
                  have kq2 := r3 c2
                  clear r3
                  have eR26 : qlk x 6 (S.2.1 1) ((qnx x.1 x.2.1 p), S.2) = (qofn x S.2.2 (S.2.1 0) (S.2.1 1) 2 (qnx x.1 x.2.1 p)) := rfl
                  rw [eR26]
                  refine And.intro (fun (c27 : ¬ ((qofn x S.2.2 (S.2.1 0) (S.2.1 1) 2 (qnx x.1 x.2.1 p))) = (-1)) => ?_) (fun (c28 : ((qofn x S.2.2 (S.2.1 0) (S.2.1 1) 2 (qnx x.1 x.2.1 p))) = (-1)) => ?_)
                  · refine And.intro (show ((0 : Int) ≤ r9 ∧ r9 ≤ 29) ∧ 0 ≤ ((qofn x S.2.2 (S.2.1 0) (S.2.1 1) 2 (qnx x.1 x.2.1 p))) ∧ ((qofn x S.2.2 (S.2.1 0) (S.2.1 1) 2 (qnx x.1 x.2.1 p))) ≤ 6299 from by omega) (fun (σ2 : vS) g2 n2 => ?_)
                    have T2 : cT x (qnx x.1 x.2.1 p) σ2 := cT_sg T1 g2
                    have F2 : cSf σ σ2 := cSf_sg F1 g2
                    have N2 : σ2 102 4 = (σ 102 4) + 1 := n2.trans N1
                    have y2 : σ2 7 4 = σ1 7 4 := congrFun (g2 7 (by decide)) 4
                    have hk3 : ¬ qkd x.1 x.2.1 x.2.2 (qnx x.1 x.2.1 p) = 0 ∧ ¬ qkd x.1 x.2.1 x.2.2 (qnx x.1 x.2.1 p) = 4 := by first | exact (cT_nks T2).1 (by omega) | omega
                    refine And.intro (cT_nx ⟨T2, hk3⟩) (fun s3 (σ3 : vS) ha3 f3 t3_ => ?_)
                    have T3 : cT x (qnx x.1 x.2.1 (qnx x.1 x.2.1 p)) σ3 := cT_next T2 hk3 ha3 f3 t3_
                    have F3 : cSf σ σ3 := cSf_cg F2 (cg_of f3)
                    clear ha3
                    have N3 : σ3 102 4 = (σ 102 4) + 1 := (congrFun ((cg_of f3).1 102 (by decide)) 4).trans N2
                    refine And.intro (show 0 ≤ 1 ∧ 1 ≤ 1 from by omega) ?_
                    refine And.intro (show 0 ≤ 1 ∧ 1 ≤ 1 from by omega) ?_
                    exact h1 (qnx x.1 x.2.1 (qnx x.1 x.2.1 p)) σ3 T3 F3 ⟨by rw [N3]; exact Int.le_refl _, by rw [N3]; exact hon⟩ (fun b L => by rw [N3]; exact (qN_og hT hn ((eM b L).trans (if_neg (by omega)))).trans qN_d)
                  · refine And.intro (show 0 ≤ 0 ∧ 0 ≤ 1 from by omega) ?_
                    refine And.intro (show 0 ≤ 0 ∧ 0 ≤ 1 from by omega) ?_
                    exfalso; omega
              · have hB : qbeg x p = 3 := by have := (cT_bg hT).2.2.1 (by omega); omega
                obtain ⟨r1, r2, r3⟩ := qof_b (x := x) (S := S) (p := (qnx x.1 x.2.1 p)) hS.2 (k := 3) (by omega)
                have eM : ∀ (b : Int) (L : List Int), qop x S.2.2 (S.2.1 0) (S.2.1 1) d b L (σ 102 4) p = if (qofn x S.2.2 (S.2.1 0) (S.2.1 1) 3 (qnx x.1 x.2.1 p)) < 0 then (-(qofn x S.2.2 (S.2.1 0) (S.2.1 1) 3 (qnx x.1 x.2.1 p)), ((qnx x.1 x.2.1 p), true, d, b, L, σ 102 4 + 1)) else (0, (qnx x.1 x.2.1 (qnx x.1 x.2.1 p), true, d, b, L, σ 102 4 + 1)) := fun b L => by
                  have e := qop_m (x := x) (nm := S.2.2) (mh := S.2.1 0) (mo := S.2.1 1) (d := d) (b := b) (L := L) (o := σ 102 4) (p := p) (by omega) hlim
                  rw [hB] at e
                  exact e
                refine ⟨by omega, x, ((qnx x.1 x.2.1 p), S.2), S.2.1 0, T1, (cSn_f hS F1).1, hS.2, fun _ => ⟨rfl, fun c2 (σ2 : vS) fl2 g2 => ?_, fun c2 => ?_⟩, fun q => absurd q (by decide), fun q => absurd q (by decide)⟩
                · clear r3
                  have c2 : (qofn x S.2.2 (S.2.1 0) (S.2.1 1) 3 (qnx x.1 x.2.1 p)) < 0 := c2
                  have fl2 : cFl x (-(qofn x S.2.2 (S.2.1 0) (S.2.1 1) 3 (qnx x.1 x.2.1 p))) (qnx x.1 x.2.1 p) σ2 := fl2
                  have F2 : cSf σ σ2 := cSf_cg F1 g2
                  refine And.intro (fun (q : ¬ (-1) = (-1)) => absurd q (by decide)) (fun _ => ?_)
                  refine And.intro (show 0 ≤ 0 ∧ 0 ≤ 1 from by omega) ?_
                  refine And.intro (show 0 ≤ 0 ∧ 0 ≤ 1 from by omega) ?_
                  exact h0 (-(qofn x S.2.2 (S.2.1 0) (S.2.1 1) 3 (qnx x.1 x.2.1 p))) (qnx x.1 x.2.1 p) (σ 102 4 + 1) σ2 (by omega) (fun b L => qN_of ((eM b L).trans (if_pos c2)) (by omega)) fl2 F2
                · have c2 : 0 ≤ (qofn x S.2.2 (S.2.1 0) (S.2.1 1) 3 (qnx x.1 x.2.1 p)) := c2
                  have kq2 := r3 c2
                  clear r3
                  have eR29 : qlk x 0 (S.2.1 0) ((qnx x.1 x.2.1 p), S.2) = (qofn x S.2.2 (S.2.1 0) (S.2.1 1) 3 (qnx x.1 x.2.1 p)) := rfl
                  rw [eR29]
                  refine And.intro (fun (c30 : ¬ ((qofn x S.2.2 (S.2.1 0) (S.2.1 1) 3 (qnx x.1 x.2.1 p))) = (-1)) => ?_) (fun (c31 : ((qofn x S.2.2 (S.2.1 0) (S.2.1 1) 3 (qnx x.1 x.2.1 p))) = (-1)) => ?_)
                  · refine And.intro (show ((0 : Int) ≤ r9 ∧ r9 ≤ 29) ∧ 0 ≤ ((qofn x S.2.2 (S.2.1 0) (S.2.1 1) 3 (qnx x.1 x.2.1 p))) ∧ ((qofn x S.2.2 (S.2.1 0) (S.2.1 1) 3 (qnx x.1 x.2.1 p))) ≤ 6299 from by omega) (fun (σ2 : vS) g2 n2 => ?_)
                    have T2 : cT x (qnx x.1 x.2.1 p) σ2 := cT_sg T1 g2
                    have F2 : cSf σ σ2 := cSf_sg F1 g2
                    have N2 : σ2 102 4 = (σ 102 4) + 1 := n2.trans N1
                    have y2 : σ2 7 4 = σ1 7 4 := congrFun (g2 7 (by decide)) 4
                    have hk3 : ¬ qkd x.1 x.2.1 x.2.2 (qnx x.1 x.2.1 p) = 0 ∧ ¬ qkd x.1 x.2.1 x.2.2 (qnx x.1 x.2.1 p) = 4 := by first | exact (cT_nks T2).1 (by omega) | omega
                    refine And.intro (cT_nx ⟨T2, hk3⟩) (fun s3 (σ3 : vS) ha3 f3 t3_ => ?_)
                    have T3 : cT x (qnx x.1 x.2.1 (qnx x.1 x.2.1 p)) σ3 := cT_next T2 hk3 ha3 f3 t3_
                    have F3 : cSf σ σ3 := cSf_cg F2 (cg_of f3)
                    clear ha3
                    have N3 : σ3 102 4 = (σ 102 4) + 1 := (congrFun ((cg_of f3).1 102 (by decide)) 4).trans N2
                    refine And.intro (show 0 ≤ 1 ∧ 1 ≤ 1 from by omega) ?_
                    refine And.intro (show 0 ≤ 1 ∧ 1 ≤ 1 from by omega) ?_
                    exact h1 (qnx x.1 x.2.1 (qnx x.1 x.2.1 p)) σ3 T3 F3 ⟨by rw [N3]; exact Int.le_refl _, by rw [N3]; exact hon⟩ (fun b L => by rw [N3]; exact (qN_og hT hn ((eM b L).trans (if_neg (by omega)))).trans qN_d)
                  · refine And.intro (show 0 ≤ 0 ∧ 0 ≤ 1 from by omega) ?_
                    refine And.intro (show 0 ≤ 0 ∧ 0 ≤ 1 from by omega) ?_
                    exfalso; omega
              · refine fun z (t32 : (z = 1 ∧ σ1 7 4 = 5 ∧ σ1 7 6 = 60) ∨ (z = 0 ∧ ¬ (σ1 7 4 = 5 ∧ σ1 7 6 = 60))) => ?_
                rcases t32 with ⟨rfl, t32⟩ | ⟨rfl, t32⟩
                · refine And.intro (fun _ => ?_) (fun (q : 1 = 0) => absurd q (by decide))
                  have hk2 : ¬ qkd x.1 x.2.1 x.2.2 (qnx x.1 x.2.1 p) = 0 ∧ ¬ qkd x.1 x.2.1 x.2.2 (qnx x.1 x.2.1 p) = 4 := by first | exact (cT_nks T1).1 (by omega) | omega
                  refine And.intro (cT_nx ⟨T1, hk2⟩) (fun s2 (σ2 : vS) ha2 f2 t2_ => ?_)
                  have T2 : cT x (qnx x.1 x.2.1 (qnx x.1 x.2.1 p)) σ2 := cT_next T1 hk2 ha2 f2 t2_
                  have F2 : cSf σ σ2 := cSf_cg F1 (cg_of f2)
                  clear ha2
                  have N2 : σ2 102 4 = (σ 102 4) + 1 := (congrFun ((cg_of f2).1 102 (by decide)) 4).trans N1
                  have vu33 := cT_v T2
                  refine ⟨(cT_fl T2 (by decide : (0 : Int) ≤ 1 ∧ (1 : Int) ≤ 4)).2, fun cu33 => ?_, fun cu33 du33 => ?_, fun cu33 du33 eu33 => ?_⟩
                  · refine And.intro (fun (q : ¬ (-1) = (-1)) => absurd q (by decide)) (fun _ => ?_)
                    refine And.intro (show 0 ≤ 0 ∧ 0 ≤ 1 from by omega) ?_
                    refine And.intro (show 0 ≤ 0 ∧ 0 ≤ 1 from by omega) ?_
                    have hB := (cT_bg hT).2.2.1 (by omega)
                    have e3 : qsg3 x (qnx x.1 x.2.1 p) = true := (cT_s3 T1).mpr (by omega)
                    have e4 : ¬ qkd x.1 x.2.1 x.2.2 (qnx x.1 x.2.1 (qnx x.1 x.2.1 p)) = 2 := fun q => cu33 ((cT_nks T2).2.1.mp q)
                    exact h0 1 (qnx x.1 x.2.1 (qnx x.1 x.2.1 p)) (σ 102 4 + 1) _ (by decide) (fun b L => qN_of ((qop_s (by omega) hlim).trans ((if_pos e3).trans (if_neg e4))) (by decide)) (cFl_of T2) (cSf_cg F2 cg_fl)
                  · exfalso; have := vu33 cu33; omega
                  · have wu33 := vu33 cu33
                    clear vu33 du33 eu33
                    refine And.intro (fun (c34 : ¬ (σ2 7 6) = (-1)) => ?_) (fun (c35 : (σ2 7 6) = (-1)) => ?_)
                    · refine And.intro (show -2147483648 ≤ ((σ1 7 6) * 100) ∧ ((σ1 7 6) * 100) ≤ 2147483647 from by omega) ?_
                      refine And.intro (show -2147483648 ≤ (((σ1 7 6) * 100) + (σ2 7 6)) ∧ (((σ1 7 6) * 100) + (σ2 7 6)) ≤ 2147483647 from by omega) ?_
                      refine And.intro (show ((0 : Int) ≤ r9 ∧ r9 ≤ 29) ∧ 0 ≤ (((σ1 7 6) * 100) + (σ2 7 6)) ∧ (((σ1 7 6) * 100) + (σ2 7 6)) ≤ 6299 from by omega) (fun (σ3 : vS) g3 n3 => ?_)
                      have T3 : cT x (qnx x.1 x.2.1 (qnx x.1 x.2.1 p)) σ3 := cT_sg T2 g3
                      have F3 : cSf σ σ3 := cSf_sg F2 g3
                      have N3 : σ3 102 4 = (σ 102 4) + 1 := n3.trans N2
                      have y3 : σ3 7 4 = σ2 7 4 := congrFun (g3 7 (by decide)) 4
                      have hk4 : ¬ qkd x.1 x.2.1 x.2.2 (qnx x.1 x.2.1 (qnx x.1 x.2.1 p)) = 0 ∧ ¬ qkd x.1 x.2.1 x.2.2 (qnx x.1 x.2.1 (qnx x.1 x.2.1 p)) = 4 := by first | exact (cT_nks T3).1 (by omega) | omega
                      refine And.intro (cT_nx ⟨T3, hk4⟩) (fun s4 (σ4 : vS) ha4 f4 t4_ => ?_)
                      have T4 : cT x (qnx x.1 x.2.1 (qnx x.1 x.2.1 (qnx x.1 x.2.1 p))) σ4 := cT_next T3 hk4 ha4 f4 t4_
                      have F4 : cSf σ σ4 := cSf_cg F3 (cg_of f4)
                      clear ha4
                      have N4 : σ4 102 4 = (σ 102 4) + 1 := (congrFun ((cg_of f4).1 102 (by decide)) 4).trans N3
                      refine And.intro (show 0 ≤ 1 ∧ 1 ≤ 1 from by omega) ?_
                      refine And.intro (show 0 ≤ 1 ∧ 1 ≤ 1 from by omega) ?_
                      have hB := (cT_bg hT).2.2.1 (by omega)
                      have e3 : qsg3 x (qnx x.1 x.2.1 p) = true := (cT_s3 T1).mpr (by omega)
                      have e4 : qkd x.1 x.2.1 x.2.2 (qnx x.1 x.2.1 (qnx x.1 x.2.1 p)) = 2 := (cT_nks T2).2.1.mpr cu33
                      exact h1 (qnx x.1 x.2.1 (qnx x.1 x.2.1 (qnx x.1 x.2.1 p))) σ4 T4 F4 ⟨by rw [N4]; exact Int.le_refl _, by rw [N4]; exact hon⟩ (fun b L => by rw [N4]; exact (qN_og hT hn ((qop_s (by omega) hlim).trans ((if_pos e3).trans (if_pos e4)))).trans qN_d)
                    · refine And.intro (show 0 ≤ 0 ∧ 0 ≤ 1 from by omega) ?_
                      refine And.intro (show 0 ≤ 0 ∧ 0 ≤ 1 from by omega) ?_
                      exfalso; omega
                · refine And.intro (fun (q : ¬ 0 = 0) => absurd q (by decide)) (fun _ => ?_)
                  refine fun z (t36 : (z = 1 ∧ σ1 7 4 = 5 ∧ σ1 7 6 = 61) ∨ (z = 0 ∧ ¬ (σ1 7 4 = 5 ∧ σ1 7 6 = 61))) => ?_
                  rcases t36 with ⟨rfl, t36⟩ | ⟨rfl, t36⟩
                  · clear t32
                    refine And.intro (fun _ => ?_) (fun (q : 1 = 0) => absurd q (by decide))
                    have hk2 : ¬ qkd x.1 x.2.1 x.2.2 (qnx x.1 x.2.1 p) = 0 ∧ ¬ qkd x.1 x.2.1 x.2.2 (qnx x.1 x.2.1 p) = 4 := by first | exact (cT_nks T1).1 (by omega) | omega
                    refine And.intro (cT_nx ⟨T1, hk2⟩) (fun s2 (σ2 : vS) ha2 f2 t2_ => ?_)
                    have T2 : cT x (qnx x.1 x.2.1 (qnx x.1 x.2.1 p)) σ2 := cT_next T1 hk2 ha2 f2 t2_
                    have F2 : cSf σ σ2 := cSf_cg F1 (cg_of f2)
                    clear ha2
                    have N2 : σ2 102 4 = (σ 102 4) + 1 := (congrFun ((cg_of f2).1 102 (by decide)) 4).trans N1
                    have vu37 := cT_v T2
                    refine ⟨(cT_fl T2 (by decide : (0 : Int) ≤ 1 ∧ (1 : Int) ≤ 4)).2, fun cu37 => ?_, fun cu37 du37 => ?_, fun cu37 du37 eu37 => ?_⟩
                    · refine And.intro (fun (q : ¬ (-1) = (-1)) => absurd q (by decide)) (fun _ => ?_)
                      refine And.intro (show 0 ≤ 0 ∧ 0 ≤ 1 from by omega) ?_
                      refine And.intro (show 0 ≤ 0 ∧ 0 ≤ 1 from by omega) ?_
                      have hB := (cT_bg hT).2.2.1 (by omega)
                      have e3 : qsg3 x (qnx x.1 x.2.1 p) = true := (cT_s3 T1).mpr (by omega)
                      have e4 : ¬ qkd x.1 x.2.1 x.2.2 (qnx x.1 x.2.1 (qnx x.1 x.2.1 p)) = 2 := fun q => cu37 ((cT_nks T2).2.1.mp q)
                      exact h0 1 (qnx x.1 x.2.1 (qnx x.1 x.2.1 p)) (σ 102 4 + 1) _ (by decide) (fun b L => qN_of ((qop_s (by omega) hlim).trans ((if_pos e3).trans (if_neg e4))) (by decide)) (cFl_of T2) (cSf_cg F2 cg_fl)
                    · exfalso; have := vu37 cu37; omega
                    · have wu37 := vu37 cu37
                      clear vu37 du37 eu37
                      refine And.intro (fun (c38 : ¬ (σ2 7 6) = (-1)) => ?_) (fun (c39 : (σ2 7 6) = (-1)) => ?_)
                      · refine And.intro (show -2147483648 ≤ ((σ1 7 6) * 100) ∧ ((σ1 7 6) * 100) ≤ 2147483647 from by omega) ?_
                        refine And.intro (show -2147483648 ≤ (((σ1 7 6) * 100) + (σ2 7 6)) ∧ (((σ1 7 6) * 100) + (σ2 7 6)) ≤ 2147483647 from by omega) ?_
                        refine And.intro (show ((0 : Int) ≤ r9 ∧ r9 ≤ 29) ∧ 0 ≤ (((σ1 7 6) * 100) + (σ2 7 6)) ∧ (((σ1 7 6) * 100) + (σ2 7 6)) ≤ 6299 from by omega) (fun (σ3 : vS) g3 n3 => ?_)
                        have T3 : cT x (qnx x.1 x.2.1 (qnx x.1 x.2.1 p)) σ3 := cT_sg T2 g3
                        have F3 : cSf σ σ3 := cSf_sg F2 g3
                        have N3 : σ3 102 4 = (σ 102 4) + 1 := n3.trans N2
                        have y3 : σ3 7 4 = σ2 7 4 := congrFun (g3 7 (by decide)) 4
                        have hk4 : ¬ qkd x.1 x.2.1 x.2.2 (qnx x.1 x.2.1 (qnx x.1 x.2.1 p)) = 0 ∧ ¬ qkd x.1 x.2.1 x.2.2 (qnx x.1 x.2.1 (qnx x.1 x.2.1 p)) = 4 := by first | exact (cT_nks T3).1 (by omega) | omega
                        refine And.intro (cT_nx ⟨T3, hk4⟩) (fun s4 (σ4 : vS) ha4 f4 t4_ => ?_)
                        have T4 : cT x (qnx x.1 x.2.1 (qnx x.1 x.2.1 (qnx x.1 x.2.1 p))) σ4 := cT_next T3 hk4 ha4 f4 t4_
                        have F4 : cSf σ σ4 := cSf_cg F3 (cg_of f4)
                        clear ha4
                        have N4 : σ4 102 4 = (σ 102 4) + 1 := (congrFun ((cg_of f4).1 102 (by decide)) 4).trans N3
                        refine And.intro (show 0 ≤ 1 ∧ 1 ≤ 1 from by omega) ?_
                        refine And.intro (show 0 ≤ 1 ∧ 1 ≤ 1 from by omega) ?_
                        have hB := (cT_bg hT).2.2.1 (by omega)
                        have e3 : qsg3 x (qnx x.1 x.2.1 p) = true := (cT_s3 T1).mpr (by omega)
                        have e4 : qkd x.1 x.2.1 x.2.2 (qnx x.1 x.2.1 (qnx x.1 x.2.1 p)) = 2 := (cT_nks T2).2.1.mpr cu37
                        exact h1 (qnx x.1 x.2.1 (qnx x.1 x.2.1 (qnx x.1 x.2.1 p))) σ4 T4 F4 ⟨by rw [N4]; exact Int.le_refl _, by rw [N4]; exact hon⟩ (fun b L => by rw [N4]; exact (qN_og hT hn ((qop_s (by omega) hlim).trans ((if_pos e3).trans (if_pos e4)))).trans qN_d)
                      · refine And.intro (show 0 ≤ 0 ∧ 0 ≤ 1 from by omega) ?_
                        refine And.intro (show 0 ≤ 0 ∧ 0 ≤ 1 from by omega) ?_
                        exfalso; omega
                  · refine And.intro (fun (q : ¬ 0 = 0) => absurd q (by decide)) (fun _ => ?_)
                    refine fun z (t40 : (z = 1 ∧ σ1 7 4 = 5 ∧ σ1 7 6 = 62) ∨ (z = 0 ∧ ¬ (σ1 7 4 = 5 ∧ σ1 7 6 = 62))) => ?_
                    rcases t40 with ⟨rfl, t40⟩ | ⟨rfl, t40⟩
                    · clear t32 t36
                      refine And.intro (fun _ => ?_) (fun (q : 1 = 0) => absurd q (by decide))
                      have hk2 : ¬ qkd x.1 x.2.1 x.2.2 (qnx x.1 x.2.1 p) = 0 ∧ ¬ qkd x.1 x.2.1 x.2.2 (qnx x.1 x.2.1 p) = 4 := by first | exact (cT_nks T1).1 (by omega) | omega
                      refine And.intro (cT_nx ⟨T1, hk2⟩) (fun s2 (σ2 : vS) ha2 f2 t2_ => ?_)
                      have T2 : cT x (qnx x.1 x.2.1 (qnx x.1 x.2.1 p)) σ2 := cT_next T1 hk2 ha2 f2 t2_
                      have F2 : cSf σ σ2 := cSf_cg F1 (cg_of f2)
                      clear ha2
                      have N2 : σ2 102 4 = (σ 102 4) + 1 := (congrFun ((cg_of f2).1 102 (by decide)) 4).trans N1
                      have vu41 := cT_v T2
                      refine ⟨(cT_fl T2 (by decide : (0 : Int) ≤ 1 ∧ (1 : Int) ≤ 4)).2, fun cu41 => ?_, fun cu41 du41 => ?_, fun cu41 du41 eu41 => ?_⟩
                      · refine And.intro (fun (q : ¬ (-1) = (-1)) => absurd q (by decide)) (fun _ => ?_)
                        refine And.intro (show 0 ≤ 0 ∧ 0 ≤ 1 from by omega) ?_
                        refine And.intro (show 0 ≤ 0 ∧ 0 ≤ 1 from by omega) ?_
                        have hB := (cT_bg hT).2.2.1 (by omega)
                        have e3 : qsg3 x (qnx x.1 x.2.1 p) = true := (cT_s3 T1).mpr (by omega)
                        have e4 : ¬ qkd x.1 x.2.1 x.2.2 (qnx x.1 x.2.1 (qnx x.1 x.2.1 p)) = 2 := fun q => cu41 ((cT_nks T2).2.1.mp q)
                        exact h0 1 (qnx x.1 x.2.1 (qnx x.1 x.2.1 p)) (σ 102 4 + 1) _ (by decide) (fun b L => qN_of ((qop_s (by omega) hlim).trans ((if_pos e3).trans (if_neg e4))) (by decide)) (cFl_of T2) (cSf_cg F2 cg_fl)
                      · exfalso; have := vu41 cu41; omega
                      · have wu41 := vu41 cu41
                        clear vu41 du41 eu41
                        refine And.intro (fun (c42 : ¬ (σ2 7 6) = (-1)) => ?_) (fun (c43 : (σ2 7 6) = (-1)) => ?_)
                        · refine And.intro (show -2147483648 ≤ ((σ1 7 6) * 100) ∧ ((σ1 7 6) * 100) ≤ 2147483647 from by omega) ?_
                          refine And.intro (show -2147483648 ≤ (((σ1 7 6) * 100) + (σ2 7 6)) ∧ (((σ1 7 6) * 100) + (σ2 7 6)) ≤ 2147483647 from by omega) ?_
                          refine And.intro (show ((0 : Int) ≤ r9 ∧ r9 ≤ 29) ∧ 0 ≤ (((σ1 7 6) * 100) + (σ2 7 6)) ∧ (((σ1 7 6) * 100) + (σ2 7 6)) ≤ 6299 from by omega) (fun (σ3 : vS) g3 n3 => ?_)
                          have T3 : cT x (qnx x.1 x.2.1 (qnx x.1 x.2.1 p)) σ3 := cT_sg T2 g3
                          have F3 : cSf σ σ3 := cSf_sg F2 g3
                          have N3 : σ3 102 4 = (σ 102 4) + 1 := n3.trans N2
                          have y3 : σ3 7 4 = σ2 7 4 := congrFun (g3 7 (by decide)) 4
                          have hk4 : ¬ qkd x.1 x.2.1 x.2.2 (qnx x.1 x.2.1 (qnx x.1 x.2.1 p)) = 0 ∧ ¬ qkd x.1 x.2.1 x.2.2 (qnx x.1 x.2.1 (qnx x.1 x.2.1 p)) = 4 := by first | exact (cT_nks T3).1 (by omega) | omega
                          refine And.intro (cT_nx ⟨T3, hk4⟩) (fun s4 (σ4 : vS) ha4 f4 t4_ => ?_)
                          have T4 : cT x (qnx x.1 x.2.1 (qnx x.1 x.2.1 (qnx x.1 x.2.1 p))) σ4 := cT_next T3 hk4 ha4 f4 t4_
                          have F4 : cSf σ σ4 := cSf_cg F3 (cg_of f4)
                          clear ha4
                          have N4 : σ4 102 4 = (σ 102 4) + 1 := (congrFun ((cg_of f4).1 102 (by decide)) 4).trans N3
                          refine And.intro (show 0 ≤ 1 ∧ 1 ≤ 1 from by omega) ?_
                          refine And.intro (show 0 ≤ 1 ∧ 1 ≤ 1 from by omega) ?_
                          have hB := (cT_bg hT).2.2.1 (by omega)
                          have e3 : qsg3 x (qnx x.1 x.2.1 p) = true := (cT_s3 T1).mpr (by omega)
                          have e4 : qkd x.1 x.2.1 x.2.2 (qnx x.1 x.2.1 (qnx x.1 x.2.1 p)) = 2 := (cT_nks T2).2.1.mpr cu41
                          exact h1 (qnx x.1 x.2.1 (qnx x.1 x.2.1 (qnx x.1 x.2.1 p))) σ4 T4 F4 ⟨by rw [N4]; exact Int.le_refl _, by rw [N4]; exact hon⟩ (fun b L => by rw [N4]; exact (qN_og hT hn ((qop_s (by omega) hlim).trans ((if_pos e3).trans (if_pos e4)))).trans qN_d)
                        · refine And.intro (show 0 ≤ 0 ∧ 0 ≤ 1 from by omega) ?_
                          refine And.intro (show 0 ≤ 0 ∧ 0 ≤ 1 from by omega) ?_
                          exfalso; omega
                    · refine And.intro (fun (q : ¬ 0 = 0) => absurd q (by decide)) (fun _ => ?_)
                      refine And.intro (cT_fl T1 (by omega)) ?_
                      refine And.intro (show 0 ≤ 0 ∧ 0 ≤ 1 from by omega) ?_
                      refine And.intro (show 0 ≤ 0 ∧ 0 ≤ 1 from by omega) ?_
                      have hB := (cT_bg hT).2.2.1 (by omega)
                      have e3 : ¬ qsg3 x (qnx x.1 x.2.1 p) = true := fun q => by have := (cT_s3 T1).mp q; omega
                      exact h0 1 (qnx x.1 x.2.1 p) (σ 102 4 + 1) _ (by decide) (fun b L => qN_of ((qop_s (by omega) hlim).trans (if_neg e3)) (by decide)) (cFl_of T1) (cSf_cg F1 cg_fl)
            · refine And.intro (cT_fl hT (by omega)) ?_
              refine And.intro (show 0 ≤ 0 ∧ 0 ≤ 1 from by omega) ?_
              have hB : ¬ qbeg x p = -1 := by
                by_cases e : σ 7 6 = 21
                · have := (cT_bg hT).2.1 (by omega); omega
                · have := (cT_bg hT).2.2.1 (by omega); omega
              exact h0 4 p (σ 102 4) _ (by decide) (fun b L => qN_of (qop_4 hB (by omega)) (by decide)) (cFl_of hT) (cSf_cg cSf_refl cg_fl)
        · refine And.intro (cT_fl hT (by omega)) ?_
          refine And.intro (show 0 ≤ 0 ∧ 0 ≤ 1 from by omega) ?_
          have hB : qbeg x p = -1 := (cT_bg hT).2.2.2 t1 (by omega)
          exact h0 1 p (σ 102 4) _ (by decide) (fun b L => qN_of (qop_1 hB) (by decide)) (cFl_of hT) (cSf_cg cSf_refl cg_fl)
  · exact absurd h id
theorem vt_52z_1 (X : zX gKX E) (B : zB E) (i55 : zOKR E md72 w gr_55_1 (vt55 1)) {d bo i : Int} (hK : K (some (.inl 0)) σ) : zGC E md72 w gr_52_1.1 15 [(0, .inr (.inl 102)), (1, .inr (.inl 7)), (2, .inr (.inl 93)), (3, .inl d), (4, .inl 0), (5, .inl bo), (6, .inl i)] σ K := by
  refine zbdC (fun hb => zgoR (⟨rfl, rfl, rfl⟩ : zalt gr_52_1 (gm_52, 8)) (⟨rfl, rfl, rfl⟩ : zalt gr_55_1 (gm_55, 7)) X B zOKR_no i55 (vLA_ok X B) (by decide) [] [(15, [0, 1, 2, 3, 4, 5, 6])] (fun m => Nat.beq m.2.2.2.2.2.2.length 59) (by decide +kernel) ?_)
  refine And.intro (fun _ => ?_) (fun (q : ¬ 0 = 0) => absurd q (by decide))
  refine And.intro (show 0 ≤ 0 ∧ 0 ≤ 1 from by omega) ?_
  exact hK
set_option maxRecDepth 16384 in
theorem vt_52l_1 (X : zX gKX E) (B : zB E) (i55 : zOKR E md72 w gr_55_1 (vt55 1)) {d o0 p0 : Int} {x : qX} {S : qS} {σ0 : vS} (hd : d = 1) (hS0 : cSn S σ0) (hn : x.2.1 ≤ 940) (h0 : ∀ (k p2 o2 : Int) (σ2 : vS), ¬ k = 0 → (∀ L : List Int, qN x S false d d L o0 p0 = (k, p2, o2)) → cFl x k p2 σ2 → cSf σ0 σ2 → K (some (.inl 0)) σ2) (h1 : ∀ (p2 : Int) (σ2 : vS), cT x p2 σ2 → cSf σ0 σ2 → (o0 + 1 ≤ σ2 102 4 ∧ σ2 102 4 ≤ 20) → (∀ L : List Int, qN x S false d d L o0 p0 = qN x S true d d L (σ2 102 4) p2) → ¬ (qisw x p2 (qrw 20) = true ∨ qisw x p2 (qrw 19) = true) → K (some (.inl 1)) σ2) : ∀ (m : Nat) (bo i : Int) (σ : vS) (p : Int), 21 - i < (m : Int) → 0 ≤ i → (0 ≤ bo ∧ bo ≤ 1) → i + 1 ≤ σ 102 4 → cT x p σ → cSf σ0 σ → (o0 + 1 ≤ σ 102 4 ∧ σ 102 4 ≤ 20) → (∀ L : List Int, qN x S false d d L o0 p0 = qN x S true d d L (σ 102 4) p) → zGC E md72 w gr_52_1.1 15 [(0, .inr (.inl 102)), (1, .inr (.inl 7)), (2, .inr (.inl 93)), (3, .inl d), (4, .inl 1), (5, .inl bo), (6, .inl i)] σ K := by
  intro m
  induction m with
  | zero => intro bo i σ p h a c e; omega
  | succ m ih =>
    intro bo i σ p hm hi hbo hio hT hF ho hq
    have hS := cSn_f hS0 hF
    refine zbdC (fun hb => zgoR (⟨rfl, rfl, rfl⟩ : zalt gr_52_1 (gm_52, 8)) (⟨rfl, rfl, rfl⟩ : zalt gr_55_1 (gm_55, 7)) X B zOKR_no i55 (vLA_ok X B) (by decide) [] [(15, [0, 1, 2, 3, 4, 5, 6])] (fun m => Nat.beq m.2.2.2.2.2.2.length 59) (by decide +kernel) ?_)
    refine And.intro (fun (q : 1 = 0) => absurd q (by decide)) (fun _ => ?_)
    refine And.intro (fun (c1 : 20 < i) => ?_) (fun (c2 : i ≤ 20) => ?_)
    · refine And.intro (show 0 ≤ 0 ∧ 0 ≤ 1 from by omega) ?_
      exfalso; omega
    · refine fun (r3 : Int) (t4 : (σ 7 4 = 2 ∧ r3 = σ 7 6) ∨ (¬ σ 7 4 = 2 ∧ r3 = -1)) => ?_
      refine And.intro (fun (c5 : bo = 0) => ?_) (fun (c6 : ¬ bo = 0) => ?_)
      · refine And.intro (fun (c7 : r3 = 20) => ?_) (fun (c8 : ¬ r3 = 20) => ?_)
        · have hj : qisw x p (qrw 20) = true ∨ qisw x p (qrw 19) = true := by
            by_cases e : r3 = 20
            · exact Or.inl ((cT_kws hT (by decide)).mpr (by omega))
            · exact Or.inr ((cT_kws hT (by decide)).mpr (by omega))
          have eJ : ∀ L : List Int, qN x S true d d L (σ 102 4) p = qN x S false d d L (σ 102 4) (qnx x.1 x.2.1 p) := fun L => qN_jn hT hn hj
          have hkj : qkd x.1 x.2.1 x.2.2 p = 1 := hj.elim qisw_k qisw_k
          have hk1 : ¬ qkd x.1 x.2.1 x.2.2 p = 0 ∧ ¬ qkd x.1 x.2.1 x.2.2 p = 4 := by first | exact (cT_nks hT).1 (by omega) | omega
          refine And.intro (cT_nx ⟨hT, hk1⟩) (fun s1 (σ1 : vS) ha1 f1 t1_ => ?_)
          have T1 : cT x (qnx x.1 x.2.1 p) σ1 := cT_next hT hk1 ha1 f1 t1_
          have F1 : cSf σ σ1 := cSf_cg cSf_refl (cg_of f1)
          clear ha1
          have N1 : σ1 102 4 = σ 102 4 := congrFun ((cg_of f1).1 102 (by decide)) 4
          refine ⟨show d = 1 from by omega, x, (qnx x.1 x.2.1 p), S, ⟨T1, cSn_f hS F1, hn⟩, fun k2 p2 o2 (σ2 : vS) hk2 (q2 : (∀ (b : Int) (L : List Int), qN x S false d b L (σ1 102 4) (qnx x.1 x.2.1 p) = (k2, p2, o2))) fl2 g2 => ?_, fun p2 (σ2 : vS) (T2 : cT x p2 σ2) g2 m2 (q2 : (∀ (b : Int) (L : List Int), qN x S false d b L (σ1 102 4) (qnx x.1 x.2.1 p) = qN x S true b b L (σ2 102 4) p2)) => ?_⟩
          · rw [N1] at q2
            have F2 : cSf σ σ2 := cSf_tr F1 g2
            refine And.intro (fun (q : ¬ r3 = 20) => (by exfalso; omega)) (fun _ => ?_)
            refine And.intro (show ((0 : Int) ≤ 20 ∧ 20 ≤ 29) ∧ 0 ≤ 0 ∧ 0 ≤ 6299 from by omega) (fun (σ3 : vS) g3 n3 => ?_)
            have F3 : cSf σ σ3 := cSf_sg F2 g3
            have y3 : σ3 7 4 = σ2 7 4 := congrFun (g3 7 (by decide)) 4
            refine And.intro (show -2147483648 ≤ (i + 1) ∧ (i + 1) ≤ 2147483647 from by omega) ?_
            show zGC E md72 w gr_52_1.1 15 [(0, .inr (.inl 102)), (1, .inr (.inl 7)), (2, .inr (.inl 93)), (3, .inl d), (4, .inl 0), (5, .inl bo), (6, .inl (i + 1))] σ3 K
            exact vt_52z_1 X B i55 (h0 k2 p2 o2 σ3 hk2 (fun L => ((hq L).trans (eJ L)).trans (q2 d L)) (cFl_sg fl2 g3) (cSf_tr hF F3))
          · rw [N1] at q2 m2
            have F2 : cSf σ σ2 := cSf_tr F1 g2
            refine And.intro (fun (q : ¬ r3 = 20) => (by exfalso; omega)) (fun _ => ?_)
            refine And.intro (show ((0 : Int) ≤ 20 ∧ 20 ≤ 29) ∧ 0 ≤ 0 ∧ 0 ≤ 6299 from by omega) (fun (σ3 : vS) g3 n3 => ?_)
            have T3 : cT x p2 σ3 := cT_sg T2 g3
            have F3 : cSf σ σ3 := cSf_sg F2 g3
            have N3 : σ3 102 4 = σ2 102 4 := n3
            have y3 : σ3 7 4 = σ2 7 4 := congrFun (g3 7 (by decide)) 4
            refine And.intro (show -2147483648 ≤ (i + 1) ∧ (i + 1) ≤ 2147483647 from by omega) ?_
            show zGC E md72 w gr_52_1.1 15 [(0, .inr (.inl 102)), (1, .inr (.inl 7)), (2, .inr (.inl 93)), (3, .inl d), (4, .inl 1), (5, .inl bo), (6, .inl (i + 1))] σ3 K
            exact ih bo (i + 1) σ3 p2 (by omega) (by omega) (by omega) (by omega) T3 (cSf_tr hF F3) (by omega) (fun L => by rw [N3]; exact ((hq L).trans (eJ L)).trans (q2 d L))
        · refine And.intro (fun (c9 : r3 = 19) => ?_) (fun (c10 : ¬ r3 = 19) => ?_)
          · have hj : qisw x p (qrw 20) = true ∨ qisw x p (qrw 19) = true := by
              by_cases e : r3 = 20
              · exact Or.inl ((cT_kws hT (by decide)).mpr (by omega))
              · exact Or.inr ((cT_kws hT (by decide)).mpr (by omega))
            have eJ : ∀ L : List Int, qN x S true d d L (σ 102 4) p = qN x S false d d L (σ 102 4) (qnx x.1 x.2.1 p) := fun L => qN_jn hT hn hj
            have hkj : qkd x.1 x.2.1 x.2.2 p = 1 := hj.elim qisw_k qisw_k
            have hk1 : ¬ qkd x.1 x.2.1 x.2.2 p = 0 ∧ ¬ qkd x.1 x.2.1 x.2.2 p = 4 := by first | exact (cT_nks hT).1 (by omega) | omega
            refine And.intro (cT_nx ⟨hT, hk1⟩) (fun s1 (σ1 : vS) ha1 f1 t1_ => ?_)
            have T1 : cT x (qnx x.1 x.2.1 p) σ1 := cT_next hT hk1 ha1 f1 t1_
            have F1 : cSf σ σ1 := cSf_cg cSf_refl (cg_of f1)
            clear ha1
            have N1 : σ1 102 4 = σ 102 4 := congrFun ((cg_of f1).1 102 (by decide)) 4
            refine ⟨show d = 1 from by omega, x, (qnx x.1 x.2.1 p), S, ⟨T1, cSn_f hS F1, hn⟩, fun k2 p2 o2 (σ2 : vS) hk2 (q2 : (∀ (b : Int) (L : List Int), qN x S false d b L (σ1 102 4) (qnx x.1 x.2.1 p) = (k2, p2, o2))) fl2 g2 => ?_, fun p2 (σ2 : vS) (T2 : cT x p2 σ2) g2 m2 (q2 : (∀ (b : Int) (L : List Int), qN x S false d b L (σ1 102 4) (qnx x.1 x.2.1 p) = qN x S true b b L (σ2 102 4) p2)) => ?_⟩
            · rw [N1] at q2
              have F2 : cSf σ σ2 := cSf_tr F1 g2
              refine And.intro (fun _ => ?_) (fun (q : r3 = 20) => (by exfalso; omega))
              refine And.intro (show -2147483648 ≤ (i + 1) ∧ (i + 1) ≤ 2147483647 from by omega) ?_
              show zGC E md72 w gr_52_1.1 15 [(0, .inr (.inl 102)), (1, .inr (.inl 7)), (2, .inr (.inl 93)), (3, .inl d), (4, .inl 0), (5, .inl 1), (6, .inl (i + 1))] σ2 K
              exact vt_52z_1 X B i55 (h0 k2 p2 o2 σ2 hk2 (fun L => ((hq L).trans (eJ L)).trans (q2 d L)) fl2 (cSf_tr hF F2))
            · rw [N1] at q2 m2
              have F2 : cSf σ σ2 := cSf_tr F1 g2
              refine And.intro (fun _ => ?_) (fun (q : r3 = 20) => (by exfalso; omega))
              refine And.intro (show -2147483648 ≤ (i + 1) ∧ (i + 1) ≤ 2147483647 from by omega) ?_
              show zGC E md72 w gr_52_1.1 15 [(0, .inr (.inl 102)), (1, .inr (.inl 7)), (2, .inr (.inl 93)), (3, .inl d), (4, .inl 1), (5, .inl 1), (6, .inl (i + 1))] σ2 K
              exact ih 1 (i + 1) σ2 p2 (by omega) (by omega) (by omega) (by omega) T2 (cSf_tr hF F2) (by omega) (fun L => by exact ((hq L).trans (eJ L)).trans (q2 d L))
          · refine And.intro (show 0 ≤ 1 ∧ 1 ≤ 1 from by omega) ?_
            have hj : ¬ (qisw x p (qrw 20) = true ∨ qisw x p (qrw 19) = true) := fun q => q.elim (fun q => by have := (cT_kws hT (j := 20) (by decide)).mp q; omega) (fun q => by have := (cT_kws hT (j := 19) (by decide)).mp q; omega)
            exact h1 p σ hT (cSf_tr hF cSf_refl) (by omega) (fun L => by exact hq L) hj
      · refine And.intro (fun (c11 : r3 = 20) => ?_) (fun (c12 : ¬ r3 = 20) => ?_)
        · refine And.intro (fun _ => ?_) (fun (q : ¬ r3 = 20) => (by exfalso; omega))
          have hj : qisw x p (qrw 20) = true ∨ qisw x p (qrw 19) = true := by
            by_cases e : r3 = 20
            · exact Or.inl ((cT_kws hT (by decide)).mpr (by omega))
            · exact Or.inr ((cT_kws hT (by decide)).mpr (by omega))
          have eJ : ∀ L : List Int, qN x S true d d L (σ 102 4) p = qN x S false d d L (σ 102 4) (qnx x.1 x.2.1 p) := fun L => qN_jn hT hn hj
          have hkj : qkd x.1 x.2.1 x.2.2 p = 1 := hj.elim qisw_k qisw_k
          have hk1 : ¬ qkd x.1 x.2.1 x.2.2 p = 0 ∧ ¬ qkd x.1 x.2.1 x.2.2 p = 4 := by first | exact (cT_nks hT).1 (by omega) | omega
          refine And.intro (cT_nx ⟨hT, hk1⟩) (fun s1 (σ1 : vS) ha1 f1 t1_ => ?_)
          have T1 : cT x (qnx x.1 x.2.1 p) σ1 := cT_next hT hk1 ha1 f1 t1_
          have F1 : cSf σ σ1 := cSf_cg cSf_refl (cg_of f1)
          clear ha1
          have N1 : σ1 102 4 = σ 102 4 := congrFun ((cg_of f1).1 102 (by decide)) 4
          refine ⟨show d = 1 from by omega, x, (qnx x.1 x.2.1 p), S, ⟨T1, cSn_f hS F1, hn⟩, fun k2 p2 o2 (σ2 : vS) hk2 (q2 : (∀ (b : Int) (L : List Int), qN x S false d b L (σ1 102 4) (qnx x.1 x.2.1 p) = (k2, p2, o2))) fl2 g2 => ?_, fun p2 (σ2 : vS) (T2 : cT x p2 σ2) g2 m2 (q2 : (∀ (b : Int) (L : List Int), qN x S false d b L (σ1 102 4) (qnx x.1 x.2.1 p) = qN x S true b b L (σ2 102 4) p2)) => ?_⟩
          · rw [N1] at q2
            have F2 : cSf σ σ2 := cSf_tr F1 g2
            refine And.intro (fun (q : ¬ r3 = 20) => (by exfalso; omega)) (fun _ => ?_)
            refine And.intro (show ((0 : Int) ≤ 20 ∧ 20 ≤ 29) ∧ 0 ≤ 0 ∧ 0 ≤ 6299 from by omega) (fun (σ3 : vS) g3 n3 => ?_)
            have F3 : cSf σ σ3 := cSf_sg F2 g3
            have y3 : σ3 7 4 = σ2 7 4 := congrFun (g3 7 (by decide)) 4
            refine And.intro (show -2147483648 ≤ (i + 1) ∧ (i + 1) ≤ 2147483647 from by omega) ?_
            show zGC E md72 w gr_52_1.1 15 [(0, .inr (.inl 102)), (1, .inr (.inl 7)), (2, .inr (.inl 93)), (3, .inl d), (4, .inl 0), (5, .inl bo), (6, .inl (i + 1))] σ3 K
            exact vt_52z_1 X B i55 (h0 k2 p2 o2 σ3 hk2 (fun L => ((hq L).trans (eJ L)).trans (q2 d L)) (cFl_sg fl2 g3) (cSf_tr hF F3))
          · rw [N1] at q2 m2
            have F2 : cSf σ σ2 := cSf_tr F1 g2
            refine And.intro (fun (q : ¬ r3 = 20) => (by exfalso; omega)) (fun _ => ?_)
            refine And.intro (show ((0 : Int) ≤ 20 ∧ 20 ≤ 29) ∧ 0 ≤ 0 ∧ 0 ≤ 6299 from by omega) (fun (σ3 : vS) g3 n3 => ?_)
            have T3 : cT x p2 σ3 := cT_sg T2 g3
            have F3 : cSf σ σ3 := cSf_sg F2 g3
            have N3 : σ3 102 4 = σ2 102 4 := n3
            have y3 : σ3 7 4 = σ2 7 4 := congrFun (g3 7 (by decide)) 4
            refine And.intro (show -2147483648 ≤ (i + 1) ∧ (i + 1) ≤ 2147483647 from by omega) ?_
            show zGC E md72 w gr_52_1.1 15 [(0, .inr (.inl 102)), (1, .inr (.inl 7)), (2, .inr (.inl 93)), (3, .inl d), (4, .inl 1), (5, .inl bo), (6, .inl (i + 1))] σ3 K
            exact ih bo (i + 1) σ3 p2 (by omega) (by omega) (by omega) (by omega) T3 (cSf_tr hF F3) (by omega) (fun L => by rw [N3]; exact ((hq L).trans (eJ L)).trans (q2 d L))
        · refine And.intro (show ((0 : Int) ≤ 19 ∧ 19 ≤ 29) ∧ 0 ≤ 0 ∧ 0 ≤ 6299 from by omega) (fun (σ1 : vS) g1 n1 => ?_)
          have T1 : cT x p σ1 := cT_sg hT g1
          have F1 : cSf σ σ1 := cSf_sg cSf_refl g1
          have N1 : σ1 102 4 = σ 102 4 := n1
          have y1 : σ1 7 4 = σ 7 4 := congrFun (g1 7 (by decide)) 4
          refine And.intro (fun (c13 : r3 = 20) => ?_) (fun (c14 : ¬ r3 = 20) => ?_)
          · have hj : qisw x p (qrw 20) = true ∨ qisw x p (qrw 19) = true := by
              by_cases e : r3 = 20
              · exact Or.inl ((cT_kws hT (by decide)).mpr (by omega))
              · exact Or.inr ((cT_kws hT (by decide)).mpr (by omega))
            have eJ : ∀ L : List Int, qN x S true d d L (σ 102 4) p = qN x S false d d L (σ 102 4) (qnx x.1 x.2.1 p) := fun L => qN_jn hT hn hj
            have hkj : qkd x.1 x.2.1 x.2.2 p = 1 := hj.elim qisw_k qisw_k
            have hk2 : ¬ qkd x.1 x.2.1 x.2.2 p = 0 ∧ ¬ qkd x.1 x.2.1 x.2.2 p = 4 := by first | exact (cT_nks T1).1 (by omega) | omega
            refine And.intro (cT_nx ⟨T1, hk2⟩) (fun s2 (σ2 : vS) ha2 f2 t2_ => ?_)
            have T2 : cT x (qnx x.1 x.2.1 p) σ2 := cT_next T1 hk2 ha2 f2 t2_
            have F2 : cSf σ σ2 := cSf_cg F1 (cg_of f2)
            clear ha2
            have N2 : σ2 102 4 = σ 102 4 := (congrFun ((cg_of f2).1 102 (by decide)) 4).trans N1
            refine ⟨show d = 1 from by omega, x, (qnx x.1 x.2.1 p), S, ⟨T2, cSn_f hS F2, hn⟩, fun k3 p3 o3 (σ3 : vS) hk3 (q3 : (∀ (b : Int) (L : List Int), qN x S false d b L (σ2 102 4) (qnx x.1 x.2.1 p) = (k3, p3, o3))) fl3 g3 => ?_, fun p3 (σ3 : vS) (T3 : cT x p3 σ3) g3 m3 (q3 : (∀ (b : Int) (L : List Int), qN x S false d b L (σ2 102 4) (qnx x.1 x.2.1 p) = qN x S true b b L (σ3 102 4) p3)) => ?_⟩
            · rw [N2] at q3
              have F3 : cSf σ σ3 := cSf_tr F2 g3
              refine And.intro (fun (q : ¬ r3 = 20) => (by exfalso; omega)) (fun _ => ?_)
              refine And.intro (show ((0 : Int) ≤ 20 ∧ 20 ≤ 29) ∧ 0 ≤ 0 ∧ 0 ≤ 6299 from by omega) (fun (σ4 : vS) g4 n4 => ?_)
              have F4 : cSf σ σ4 := cSf_sg F3 g4
              have y4 : σ4 7 4 = σ3 7 4 := congrFun (g4 7 (by decide)) 4
              refine And.intro (show -2147483648 ≤ (i + 1) ∧ (i + 1) ≤ 2147483647 from by omega) ?_
              show zGC E md72 w gr_52_1.1 15 [(0, .inr (.inl 102)), (1, .inr (.inl 7)), (2, .inr (.inl 93)), (3, .inl d), (4, .inl 0), (5, .inl 0), (6, .inl (i + 1))] σ4 K
              exact vt_52z_1 X B i55 (h0 k3 p3 o3 σ4 hk3 (fun L => ((hq L).trans (eJ L)).trans (q3 d L)) (cFl_sg fl3 g4) (cSf_tr hF F4))
            · rw [N2] at q3 m3
              have F3 : cSf σ σ3 := cSf_tr F2 g3
              refine And.intro (fun (q : ¬ r3 = 20) => (by exfalso; omega)) (fun _ => ?_)
              refine And.intro (show ((0 : Int) ≤ 20 ∧ 20 ≤ 29) ∧ 0 ≤ 0 ∧ 0 ≤ 6299 from by omega) (fun (σ4 : vS) g4 n4 => ?_)
              have T4 : cT x p3 σ4 := cT_sg T3 g4
              have F4 : cSf σ σ4 := cSf_sg F3 g4
              have N4 : σ4 102 4 = σ3 102 4 := n4
              have y4 : σ4 7 4 = σ3 7 4 := congrFun (g4 7 (by decide)) 4
              refine And.intro (show -2147483648 ≤ (i + 1) ∧ (i + 1) ≤ 2147483647 from by omega) ?_
              show zGC E md72 w gr_52_1.1 15 [(0, .inr (.inl 102)), (1, .inr (.inl 7)), (2, .inr (.inl 93)), (3, .inl d), (4, .inl 1), (5, .inl 0), (6, .inl (i + 1))] σ4 K
              exact ih 0 (i + 1) σ4 p3 (by omega) (by omega) (by omega) (by omega) T4 (cSf_tr hF F4) (by omega) (fun L => by rw [N4]; exact ((hq L).trans (eJ L)).trans (q3 d L))
          · refine And.intro (fun (c15 : r3 = 19) => ?_) (fun (c16 : ¬ r3 = 19) => ?_)
            · have hj : qisw x p (qrw 20) = true ∨ qisw x p (qrw 19) = true := by
                by_cases e : r3 = 20
                · exact Or.inl ((cT_kws hT (by decide)).mpr (by omega))
                · exact Or.inr ((cT_kws hT (by decide)).mpr (by omega))
              have eJ : ∀ L : List Int, qN x S true d d L (σ 102 4) p = qN x S false d d L (σ 102 4) (qnx x.1 x.2.1 p) := fun L => qN_jn hT hn hj
              have hkj : qkd x.1 x.2.1 x.2.2 p = 1 := hj.elim qisw_k qisw_k
              have hk2 : ¬ qkd x.1 x.2.1 x.2.2 p = 0 ∧ ¬ qkd x.1 x.2.1 x.2.2 p = 4 := by first | exact (cT_nks T1).1 (by omega) | omega
              refine And.intro (cT_nx ⟨T1, hk2⟩) (fun s2 (σ2 : vS) ha2 f2 t2_ => ?_)
              have T2 : cT x (qnx x.1 x.2.1 p) σ2 := cT_next T1 hk2 ha2 f2 t2_
              have F2 : cSf σ σ2 := cSf_cg F1 (cg_of f2)
              clear ha2
              have N2 : σ2 102 4 = σ 102 4 := (congrFun ((cg_of f2).1 102 (by decide)) 4).trans N1
              refine ⟨show d = 1 from by omega, x, (qnx x.1 x.2.1 p), S, ⟨T2, cSn_f hS F2, hn⟩, fun k3 p3 o3 (σ3 : vS) hk3 (q3 : (∀ (b : Int) (L : List Int), qN x S false d b L (σ2 102 4) (qnx x.1 x.2.1 p) = (k3, p3, o3))) fl3 g3 => ?_, fun p3 (σ3 : vS) (T3 : cT x p3 σ3) g3 m3 (q3 : (∀ (b : Int) (L : List Int), qN x S false d b L (σ2 102 4) (qnx x.1 x.2.1 p) = qN x S true b b L (σ3 102 4) p3)) => ?_⟩
              · rw [N2] at q3
                have F3 : cSf σ σ3 := cSf_tr F2 g3
                refine And.intro (fun _ => ?_) (fun (q : r3 = 20) => (by exfalso; omega))
                refine And.intro (show -2147483648 ≤ (i + 1) ∧ (i + 1) ≤ 2147483647 from by omega) ?_
                show zGC E md72 w gr_52_1.1 15 [(0, .inr (.inl 102)), (1, .inr (.inl 7)), (2, .inr (.inl 93)), (3, .inl d), (4, .inl 0), (5, .inl 1), (6, .inl (i + 1))] σ3 K
                exact vt_52z_1 X B i55 (h0 k3 p3 o3 σ3 hk3 (fun L => ((hq L).trans (eJ L)).trans (q3 d L)) fl3 (cSf_tr hF F3))
              · rw [N2] at q3 m3
                have F3 : cSf σ σ3 := cSf_tr F2 g3
                refine And.intro (fun _ => ?_) (fun (q : r3 = 20) => (by exfalso; omega))
                refine And.intro (show -2147483648 ≤ (i + 1) ∧ (i + 1) ≤ 2147483647 from by omega) ?_
                show zGC E md72 w gr_52_1.1 15 [(0, .inr (.inl 102)), (1, .inr (.inl 7)), (2, .inr (.inl 93)), (3, .inl d), (4, .inl 1), (5, .inl 1), (6, .inl (i + 1))] σ3 K
                exact ih 1 (i + 1) σ3 p3 (by omega) (by omega) (by omega) (by omega) T3 (cSf_tr hF F3) (by omega) (fun L => by exact ((hq L).trans (eJ L)).trans (q3 d L))
            · refine And.intro (show 0 ≤ 1 ∧ 1 ≤ 1 from by omega) ?_
              have hj : ¬ (qisw x p (qrw 20) = true ∨ qisw x p (qrw 19) = true) := fun q => q.elim (fun q => by have := (cT_kws hT (j := 20) (by decide)).mp q; omega) (fun q => by have := (cT_kws hT (j := 19) (by decide)).mp q; omega)
              exact h1 p σ1 T1 (cSf_tr hF F1) (by omega) (fun L => by rw [N1]; exact hq L) hj
set_option maxRecDepth 16384 in
theorem vt_52_1 (X : zX gKX E) (B : zB E) (i55 : zOKR E md72 w gr_55_1 (vt55 1)) : zOKR E md72 w gr_52_1 (vt52 1) := by
  intro vs σ K h
  unfold vt52 at h
  split at h
  · rename_i d
    obtain ⟨hd, x, p, S, ⟨hT, hS, hn⟩, h0, h1⟩ := h
    show zGC E md72 w gr_52_1.1 0 [(0, .inr (.inl 102)), (1, .inr (.inl 7)), (2, .inr (.inl 93)), (3, .inl d)] σ K
    refine zbdC (fun hb0 => ?_)
    have b4 : 0 ≤ σ 102 4 ∧ σ 102 4 ≤ 20 := zfC hb0 (t := 102) (f := 4) (by decide +kernel)
    refine zbdC (fun hb => zgoR (⟨rfl, rfl, rfl⟩ : zalt gr_52_1 (gm_52, 8)) (⟨rfl, rfl, rfl⟩ : zalt gr_55_1 (gm_55, 7)) X B zOKR_no i55 (vLA_ok X B) (by decide) [] [(15, [0, 1, 2, 3, 4, 5, 6])] (fun m => Nat.beq m.2.2.2.2.2.2.length 59) (by decide +kernel) ?_)
    refine ⟨show d = 1 from by omega, x, p, S, ⟨hT, cSn_f hS cSf_refl, hn⟩, fun k1 p1 o1 (σ1 : vS) hk1 (q1 : (∀ (b : Int) (L : List Int), qN x S false d b L (σ 102 4) p = (k1, p1, o1))) fl1 g1 => ?_, fun p1 (σ1 : vS) (T1 : cT x p1 σ1) g1 m1 (q1 : (∀ (b : Int) (L : List Int), qN x S false d b L (σ 102 4) p = qN x S true b b L (σ1 102 4) p1)) => ?_⟩
    · have F1 : cSf σ σ1 := cSf_tr cSf_refl g1
      show zGC E md72 w gr_52_1.1 15 [(0, .inr (.inl 102)), (1, .inr (.inl 7)), (2, .inr (.inl 93)), (3, .inl d), (4, .inl 0), (5, .inl 0), (6, .inl 0)] σ1 K
      exact vt_52z_1 X B i55 (h0 k1 p1 o1 σ1 hk1 (fun L => q1 d L) fl1 F1)
    · have F1 : cSf σ σ1 := cSf_tr cSf_refl g1
      show zGC E md72 w gr_52_1.1 15 [(0, .inr (.inl 102)), (1, .inr (.inl 7)), (2, .inr (.inl 93)), (3, .inl d), (4, .inl 1), (5, .inl 0), (6, .inl 0)] σ1 K
      exact vt_52l_1 X B i55 hd hS hn h0 h1 22 0 0 σ1 p1 (by omega) (by omega) (by omega) (by omega) T1 F1 (by omega) (fun L => q1 d L)
  · exact absurd h id
end ZVR
