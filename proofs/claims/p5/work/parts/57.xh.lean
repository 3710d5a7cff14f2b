/-! THE CLASS READS A BOOK: readText -/
noncomputable section
def vt6 : vSpL := fun vs σ K => match vs with
  | [.inr (.inl 0), .inr (.inl 7), .inr (.inl 93)] => ∃ S : qS, cSn S σ ∧ (∀ j : Int, 0 ≤ j → j < 30 → σ 35 j = qkc j) ∧ ((qBk (ctx σ, σ 7 1, 400) S.2.2 (S.2.1 1) (S.2.1 2) 1000 0 0).1 = 0 → ∀ σ2 : vS, cBf σ σ2 → σ2 7 2 = 0 → (∀ i : Int, 0 ≤ i → i < σ2 0 4 → cRow σ2 i) → K (some (.inl 1)) σ2) ∧ (¬ (qBk (ctx σ, σ 7 1, 400) S.2.2 (S.2.1 1) (S.2.1 2) 1000 0 0).1 = 0 → ∀ σ2 : vS, cBf σ σ2 → σ2 7 2 = (qBk (ctx σ, σ 7 1, 400) S.2.2 (S.2.1 1) (S.2.1 2) 1000 0 0).1 → (∀ i : Int, 0 ≤ i → i < σ2 0 4 → cRow σ2 i) → K (some (.inl 0)) σ2)
  | _ => False
def vLM : List (Nat × vSpL) := (5, vt5) :: vLB
end
theorem cBf_tr {a b c : vS} (h : cBf a b) (g : cBf b c) : cBf a c := fun t x y => (g t x y).trans (h t x y)
theorem cRow_cg {σ σ2 : vS} {i : Int} (e : ∀ t : Nat, 13 ≤ t → t ≤ 16 → σ2 t i = σ t i) (h : cRow σ i) : cRow σ2 i := by
  unfold cRow at h ⊢
  rw [e 13 (by decide) (by decide), e 14 (by decide) (by decide), e 15 (by decide) (by decide), e 16 (by decide) (by decide)]
  exact h
section ZVL6
variable {E : zE} {w : va_W} {σ : vS} {K : vKL}
theorem vLM_ok (X : zX gKX E) (B : zB E) : zSC E mdK w vLM := zS_consC (vt_5 X B) (vLB_ok X B)
set_option maxRecDepth 16384 in
theorem vt_6l (X : zX gKX E) (B : zB E) {x : qX} {S : qS} {σ0 : vS} : ∀ (k : Nat) (n p : Int) (σ : vS), n + (k : Int) = 1000 → (0 ≤ n ∧ n ≤ 40) → cT x p σ → cSn S σ → σ 0 4 = n → cBf σ0 σ → (∀ i : Int, 0 ≤ i → i < n → cRow σ i) → ((qBk x S.2.2 (S.2.1 1) (S.2.1 2) k n p).1 = 0 → ∀ σ2 : vS, cBf σ0 σ2 → σ2 7 2 = 0 → (∀ i : Int, 0 ≤ i → i < σ2 0 4 → cRow σ2 i) → K (some (.inl 1)) σ2) → (¬ (qBk x S.2.2 (S.2.1 1) (S.2.1 2) k n p).1 = 0 → ∀ σ2 : vS, cBf σ0 σ2 → σ2 7 2 = (qBk x S.2.2 (S.2.1 1) (S.2.1 2) k n p).1 → (∀ i : Int, 0 ≤ i → i < σ2 0 4 → cRow σ2 i) → K (some (.inl 0)) σ2) → zGC E mdK w gm_6 14 [(0, .inr (.inl 0)), (1, .inr (.inl 7)), (2, .inr (.inl 93)), (3, .inl n)] σ K := by
  intro k
  induction k with
  | zero => intro n p σ h hn; omega
  | succ k ih =>
    intro n p σ hk hn hT hS en hF0 hr hC hD
    have hH1 := hS.2.2.1
    refine zbdC (fun hb => zgoC X B (vLM_ok X B) [] [(14, [0, 1, 2, 3])] (fun m => Nat.beq m.2.2.2.2.2.2.length 27) (by decide +kernel) ?_)
    refine And.intro (fun (c1 : 40 < n) => ?_) (fun (c2 : n ≤ 40) => ?_)
    · refine And.intro (show 0 ≤ 0 ∧ 0 ≤ 1 from by omega) ?_
      exfalso; omega
    · have f3 : 0 ≤ σ 7 4 ∧ σ 7 4 ≤ 5 := zfC hb (t := 7) (f := 4) (by decide +kernel)
      refine And.intro (fun (c4 : ¬ (σ 7 4) = 0) => ?_) (fun (c5 : (σ 7 4) = 0) => ?_)
      · have kk := cT_nks hT
        have hk0 : ¬ qkd x.1 x.2.1 x.2.2 p = 0 := fun q => by have := kk.2.2.mp q; omega
        clear kk
        refine ⟨x, p, S, ⟨hT, hS⟩, ?_, ?_⟩
        · rw [en]
          refine fun c1 (σ1 : vS) F1 f1 n1 b1 => ?_
          refine And.intro (fun (q : ¬ 0 = 0) => absurd q (by decide)) (fun _ => ?_)
          refine And.intro (show 0 ≤ 0 ∧ 0 ≤ 1 from by omega) ?_
          have hr1 : ∀ i : Int, 0 ≤ i → i < n → cRow σ1 i := fun i i0 i1 => cRow_cg (fun t t0 t1 => b1 t t0 t1 i (by omega)) (hr i i0 (by omega))
          rw [qBk_f hk0 c1] at hD
          exact hD c1 σ1 (cBf_tr hF0 f1) F1.1 (fun i i0 i1 => hr1 i i0 (by omega))
        · rw [en]
          refine fun c1 => ⟨fun c2 (σ1 : vS) F1 f1 n1 b1 => ?_, fun c2 (σ1 : vS) T1 f1 n1 b1 r1 => ?_⟩
          · refine And.intro (fun (q : ¬ 0 = 0) => absurd q (by decide)) (fun _ => ?_)
            refine And.intro (show 0 ≤ 0 ∧ 0 ≤ 1 from by omega) ?_
            have hr1 : ∀ i : Int, 0 ≤ i → i < n → cRow σ1 i := fun i i0 i1 => cRow_cg (fun t t0 t1 => b1 t t0 t1 i (by omega)) (hr i i0 (by omega))
            rw [qBk_1 hk0 c1 c2] at hD
            exact hD (by show ¬ ((1 : Int) = 0); decide) σ1 (cBf_tr hF0 f1) F1.1 (fun i i0 i1 => hr1 i i0 (by omega))
          · have hn40 := qLn_ok hH1.1 c1
            refine And.intro (fun _ => ?_) (fun (q : 1 = 0) => absurd q (by decide))
            refine And.intro (show -2147483648 ≤ (n + 1) ∧ (n + 1) ≤ 2147483647 from by omega) ?_
            show zGC E mdK w gm_6 14 [(0, .inr (.inl 0)), (1, .inr (.inl 7)), (2, .inr (.inl 93)), (3, .inl (n + 1))] σ1 K
            have hr1 : ∀ i : Int, 0 ≤ i → i < n → cRow σ1 i := fun i i0 i1 => cRow_cg (fun t t0 t1 => b1 t t0 t1 i (by omega)) (hr i i0 (by omega))
            rw [qBk_g hk0 c1 c2] at hC hD
            refine ih (n + 1) _ σ1 (by omega) ⟨by omega, by omega⟩ T1 (cSn_b hS f1) (by omega) (cBf_tr hF0 f1) (fun i i0 i1 => ?_) hC hD
            by_cases hi : i = n
            · rw [hi]; exact r1
            · exact hr1 i i0 (by omega)
      · refine And.intro (show 0 ≤ 1 ∧ 1 ≤ 1 from by omega) ?_
        have hk0 : qkd x.1 x.2.1 x.2.2 p = 0 := (cT_nks hT).2.2.mpr (by omega)
        rw [qBk_e hk0] at hC
        exact hC rfl σ hF0 hT.1.2.2 (fun i i0 i1 => hr i i0 (by omega))
set_option maxRecDepth 16384 in
theorem vt_6 (X : zX gKX E) (B : zB E) : zOKC E mdK w 6 vt6 := by
  intro q hq vs σ K h
  cases (show gMT 6 = some (gm_6, 4) from rfl).symm.trans hq
  unfold vt6 at h
  split at h
  · obtain ⟨S, hS, h35, h0, h1⟩ := h
    show zGC E mdK w gm_6 0 [(0, .inr (.inl 0)), (1, .inr (.inl 7)), (2, .inr (.inl 93))] σ K
    refine zbdC (fun hb0 => ?_)
    have hn0 : 0 ≤ σ 7 1 ∧ σ 7 1 ≤ 940 := zfC hb0 (t := 7) (f := 1) (lo := 0) (hi := 940) (by decide +kernel)
    refine zbdC (fun hb => zgoC X B (vLM_ok X B) [] [(14, [0, 1, 2, 3])] (fun m => Nat.beq m.2.2.2.2.2.2.length 27) (by decide +kernel) ?_)
    refine And.intro (show 0 ≤ 0 ∧ 0 ≤ 40 from by omega) ?_
    refine And.intro (show 0 ≤ 400 ∧ 400 ≤ 900 from by omega) ?_
    refine And.intro (show Int.negSucc 2147483647 ≤ 0 ∧ 0 ≤ 2147483647 from rgm (by omega)) ?_
    refine And.intro (show 0 ≤ 0 ∧ 0 ≤ 4 from by omega) ?_
    refine And.intro (show Int.negSucc 2147483647 ≤ 0 ∧ 0 ≤ 900 from rgm (by omega)) ?_
    have hTB : cTB (ctx σ, σ 7 1, 400) (vup (vup (vup (vup (vup σ 0 4 0) 7 9 400) 7 10 0) 7 2 0) 7 3 0) := ⟨⟨rfl, rfl, rfl⟩, h35, rfl⟩
    refine And.intro (show 0 ≤ (0 : Int) ∧ (0 ≤ (400 : Int) ∧ (400 : Int) ≤ 900) from by decide) (fun s1 (σ1 : vS) ha1 f1 t1 => ?_)
    have T1 : cT (ctx σ, σ 7 1, 400) 0 σ1 := cT_adv (p := 0) (x := (ctx σ, σ 7 1, 400)) (σ := (vup (vup (vup (vup (vup σ 0 4 0) 7 9 400) 7 10 0) 7 2 0) 7 3 0)) hTB rfl ⟨by decide, by show 0 ≤ σ 7 1; omega⟩ (show (0 : Int) ≤ 400 ∧ (400 : Int) ≤ 900 by decide) ha1 f1 t1
    have F1 : cBf σ σ1 := fun t a b => ((cg_of f1).1 t a).trans (by rw [vup_fr (by omega)]; rw [vup_fr (by omega)]; rw [vup_fr (by omega)]; rw [vup_fr (by omega)]; rw [vup_fr (by omega)])
    have N1 : σ1 0 4 = 0 := (congrFun ((cg_of f1).1 0 (by decide)) 4).trans rfl
    show zGC E mdK w gm_6 14 [(0, .inr (.inl 0)), (1, .inr (.inl 7)), (2, .inr (.inl 93)), (3, .inl 0)] σ1 K
    exact vt_6l X B (S := S) (σ0 := σ) 1000 0 0 σ1 (by decide) ⟨by decide, by decide⟩ T1 (cSn_b hS F1) N1 F1 (fun i a b => by omega) h0 h1
  · exact absurd h id
end ZVL6
