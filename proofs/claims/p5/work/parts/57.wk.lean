/-! THE CLASS READS A SENTENCE: readText -/
noncomputable section
def vt56 : vSpL := fun vs σ K => match vs with
  | [.inr (.inl 102), .inr (.inl 7), .inr (.inl 93)] => ∃ S : qS, cSn S σ ∧ (∀ j : Int, 0 ≤ j → j < 30 → σ 35 j = qkc j) ∧ ((qN (ctx σ, σ 7 1, 200) S false 1 1 [] 0 0).1 = 0 → ∀ σ2 : vS, cSf σ σ2 → σ2 7 2 = 0 → σ2 102 4 = (qN (ctx σ, σ 7 1, 200) S false 1 1 [] 0 0).2.2 → K (some (.inl 1)) σ2) ∧ (¬ (qN (ctx σ, σ 7 1, 200) S false 1 1 [] 0 0).1 = 0 → ∀ σ2 : vS, cSf σ σ2 → σ2 7 2 = (qN (ctx σ, σ 7 1, 200) S false 1 1 [] 0 0).1 → σ2 7 3 = qat (ctx σ) (σ 7 1) 200 (qN (ctx σ, σ 7 1, 200) S false 1 1 [] 0 0).2.1 → K (some (.inl 0)) σ2)
  | _ => False
def vLT : List (Nat × vSpL) := (52, vt52 1) :: vLA
end
section ZVX
variable {E : zE} {w : va_W} {σ : vS} {K : vKL}
theorem vt_52 (X : zX gKX E) (B : zB E) : zOKC E md72 w 52 (vt52 1) := by

  have a9 := vt_55_9 (w := w) X B
  have c9 := vt_52_9 (w := w) X B a9
  have a8 := vt_55_8 (w := w) X B a9 c9
  have c8 := vt_52_8 (w := w) X B a8
  have a7 := vt_55_7 (w := w) X B a8 c8
  have c7 := vt_52_7 (w := w) X B a7
  have a6 := vt_55_6 (w := w) X B a7 c7
  have c6 := vt_52_6 (w := w) X B a6
  have a5 := vt_55_5 (w := w) X B a6 c6
  have c5 := vt_52_5 (w := w) X B a5
  have a4 := vt_55_4 (w := w) X B a5 c5
  have c4 := vt_52_4 (w := w) X B a4
  have a3 := vt_55_3 (w := w) X B a4 c4
  have c3 := vt_52_3 (w := w) X B a3
  have a2 := vt_55_2 (w := w) X B a3 c3
  have c2 := vt_52_2 (w := w) X B a2
  have a1 := vt_55_1 (w := w) X B a2 c2
  have c1 := vt_52_1 (w := w) X B a1
  intro q hq vs σ K h
  cases (show gMT 52 = some gr_52_1 from rfl).symm.trans hq
  exact c1 vs σ K h
theorem vLT_ok (X : zX gKX E) (B : zB E) : zSC E md72 w vLT := zS_consC (vt_52 X B) (vLA_ok X B)
set_option maxRecDepth 16384 in
theorem vt_56 (X : zX gKX E) (B : zB E) : zOKC E md72 w 56 vt56 := by
  intro q hq vs σ K h
  cases (show gMT 56 = some (gm_56, 3) from rfl).symm.trans hq
  unfold vt56 at h
  split at h
  · obtain ⟨S, hS, h35, h0, h1⟩ := h
    show zGC E md72 w gm_56 0 [(0, .inr (.inl 102)), (1, .inr (.inl 7)), (2, .inr (.inl 93))] σ K
    refine zbdC (fun hb0 => ?_)
    have hn : σ 7 1 ≤ 940 := (zfC hb0 (t := 7) (f := 1) (lo := 0) (hi := 940) (by decide +kernel)).2
    have hn0 : 0 ≤ σ 7 1 := (zfC hb0 (t := 7) (f := 1) (lo := 0) (hi := 940) (by decide +kernel)).1
    refine zbdC (fun hb => zgoC X B (vLT_ok X B) [] [] (fun m => false) (by decide +kernel) ?_)
    refine And.intro (show 0 ≤ 0 ∧ 0 ≤ 40 from by omega) ?_
    refine And.intro (show 0 ≤ 0 ∧ 0 ≤ 20 from by omega) ?_
    refine And.intro (show 0 ≤ 200 ∧ 200 ≤ 900 from by omega) ?_
    refine And.intro (show Int.negSucc 2147483647 ≤ 0 ∧ 0 ≤ 2147483647 from rgm (by omega)) ?_
    refine And.intro (show 0 ≤ 0 ∧ 0 ≤ 4 from by omega) ?_
    refine And.intro (show Int.negSucc 2147483647 ≤ 0 ∧ 0 ≤ 900 from rgm (by omega)) ?_
    have hTB : cTB (ctx σ, σ 7 1, 200) (vup (vup (vup (vup (vup (vup σ 102 3 0) 102 4 0) 7 9 200) 7 10 0) 7 2 0) 7 3 0) := ⟨⟨rfl, rfl, rfl⟩, h35, rfl⟩
    refine And.intro (show 0 ≤ (0 : Int) ∧ (0 ≤ (200 : Int) ∧ (200 : Int) ≤ 900) from by decide) (fun s1 (σ1 : vS) ha1 f1 t1 => ?_)
    have T1 : cT (ctx σ, σ 7 1, 200) 0 σ1 := cT_adv (p := 0) (x := (ctx σ, σ 7 1, 200)) (σ := (vup (vup (vup (vup (vup (vup σ 102 3 0) 102 4 0) 7 9 200) 7 10 0) 7 2 0) 7 3 0)) hTB rfl ⟨by decide, by show 0 ≤ σ 7 1; omega⟩ (show (0 : Int) ≤ 200 ∧ (200 : Int) ≤ 900 by decide) ha1 f1 t1
    have F1 : cSf σ σ1 := fun t a b => ((cg_of f1).1 t a).trans (by rw [vup_fr (by omega)]; rw [vup_fr (by omega)]; rw [vup_fr (by omega)]; rw [vup_fr (by omega)]; rw [vup_fr (by omega)]; rw [vup_fr (by omega)])
    have N1 : σ1 102 4 = 0 := (congrFun ((cg_of f1).1 102 (by decide)) 4).trans rfl
    refine ⟨rfl, (ctx σ, σ 7 1, 200), 0, S, ⟨T1, cSn_f hS F1, hn⟩, fun k2 p2 o2 (σ2 : vS) hk2 q2 fl2 g2 => ?_, fun p2 (σ2 : vS) (T2 : cT (ctx σ, σ 7 1, 200) p2 σ2) g2 m2 q2 hj2 => ?_⟩
    · rw [N1] at q2
      refine And.intro (fun (q : ¬ 0 = 0) => absurd q (by decide)) (fun _ => ?_)
      refine And.intro (show 0 ≤ 0 ∧ 0 ≤ 1 from by omega) ?_
      have eA := q2 []
      rw [eA] at h1
      exact h1 hk2 σ2 (cSf_tr F1 g2) fl2.1 fl2.2
    · rw [N1] at q2
      have kk := cT_nks T2
      refine And.intro (fun _ => ?_) (fun (q : 1 = 0) => absurd q (by decide))
      refine And.intro (fun (c1 : (σ2 7 4) = 0) => ?_) (fun (c2 : ¬ (σ2 7 4) = 0) => ?_)
      · refine And.intro (show 0 ≤ 1 ∧ 1 ≤ 1 from by omega) ?_
        have hk0 : qkd (ctx σ) (σ 7 1) 200 p2 = 0 := kk.2.2.mpr (by omega)
        have eA := (q2 []).trans (qQ_e hk0)
        rw [eA] at h0
        exact h0 rfl σ2 (cSf_tr F1 g2) T2.1.2.2 rfl
      · refine And.intro (cT_fl T2 (by omega)) ?_
        refine And.intro (fun _ => ?_) (fun (q : ¬ 0 = 0) => absurd q (by decide))
        refine And.intro (show 0 ≤ 0 ∧ 0 ≤ 1 from by omega) ?_
        have hk0 : ¬ qkd (ctx σ) (σ 7 1) 200 p2 = 0 := fun q => by have := kk.2.2.mp q; omega
        have eA := (q2 []).trans (qQ_bf hk0 (qbh_e hj2) (by decide))
        rw [eA] at h1
        have fl := cFl_of (k := 1) T2
        exact h1 (by decide : ¬ (1 : Int) = 0) _ (cSf_cg (cSf_tr F1 g2) cg_fl) fl.1 fl.2
  · exact absurd h id
end ZVX
