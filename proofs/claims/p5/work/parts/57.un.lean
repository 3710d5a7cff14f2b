/-! THE CLASS READS A TERRACE: readText. -/
theorem qloop_a {x : qX} : ∀ (k : Nat) (l : Int) (S : qS), ¬ (qloop x k l S).2.1 = 0 → (qloop x k l S).1 = -1 - qat x.1 x.2.1 x.2.2 (qloop x k l S).2.2.1
  | 0, l, S, h => absurd rfl h
  | k + 1, l, S, h => by
    by_cases h1 : qtk x S = 0
    · rw [qloop_e h1] at h
      exact absurd rfl h
    · by_cases h2 : (qfull x S).1 = 0
      · rw [qloop_g h1 h2] at h ⊢
        exact qloop_a k (l + 1) _ h
      · rw [qloop_f h1 h2]
section ZV6
variable {E : zE} {w : va_W} {σ : vS} {K : vKL}
set_option maxRecDepth 8192 in
theorem vk_101 (X : zX gKX E) (B : zB E) : zOKC E md72 w 101 vs101 := by
  intro q hq vs σ K h
  cases (show gMT 101 = some (gm_101, 3) from rfl).symm.trans hq
  unfold vs101 at h
  split at h
  · obtain ⟨h35, nm, hC, hF⟩ := h
    show zGC E md72 w gm_101 0 [(0, .inr (.inl 9)), (1, .inr (.inl 7))] σ K
    refine zbdC (fun hb0 => ?_)
    have hn : 0 ≤ σ 7 1 ∧ σ 7 1 ≤ 940 := zfC hb0 (t := 7) (f := 1) (by decide +kernel)
    refine zbdC (fun hb => zgoC X B (vL5_ok X B) [] [(23, [0, 1, 2])] (fun m => Nat.beq m.2.2.2.2.2.2.length 33) (by decide +kernel) ?_)
    refine ⟨by decide, fun (σ1 : vS) f1 g1 => ?_⟩
    have f1 : ∀ t2, ¬ t2 = 79 → σ1 t2 = σ t2 := f1
    refine ⟨by decide, fun (σ2 : vS) f2 g2 => ?_⟩
    have f2 : ∀ t2, ¬ t2 = 86 → σ2 t2 = σ1 t2 := f2
    refine And.intro (show 0 ≤ 0 ∧ 0 ≤ 20 from by omega) ?_
    refine And.intro (show Int.negSucc 2147483647 ≤ 0 ∧ 0 ≤ 2147483647 from rgm (by omega)) ?_
    refine ⟨by decide, fun (σ3 : vS) f3 g3 => ?_⟩
    have f3 : ∀ t2, ¬ t2 = 88 → σ3 t2 = (vup (vup σ2 78 8 0) 78 9 0) t2 := f3
    refine ⟨by decide, fun (σ4 : vS) f4 g4 => ?_⟩
    have f4 : ∀ t2, ¬ t2 = 89 → σ4 t2 = σ3 t2 := f4
    refine ⟨by decide, fun (σ5 : vS) f5 g5 => ?_⟩
    have f5 : ∀ t2, ¬ t2 = 90 → σ5 t2 = σ4 t2 := f5
    refine ⟨by decide, fun (σ6 : vS) f6 g6 => ?_⟩
    have f6 : ∀ t2, ¬ t2 = 91 → σ6 t2 = σ5 t2 := f6
    refine ⟨by decide, fun (σ7 : vS) f7 g7 => ?_⟩
    have f7 : ∀ t2, ¬ t2 = 92 → σ7 t2 = σ6 t2 := f7
    refine And.intro (show Int.negSucc 2147483647 ≤ 0 ∧ 0 ≤ 2147483647 from rgm (by omega)) ?_
    refine And.intro (show Int.negSucc 2147483647 ≤ 0 ∧ 0 ≤ 2147483647 from rgm (by omega)) ?_
    refine And.intro (show Int.negSucc 2147483647 ≤ 0 ∧ 0 ≤ 2147483647 from rgm (by omega)) ?_
    refine And.intro (show Int.negSucc 2147483647 ≤ 0 ∧ 0 ≤ 2147483647 from rgm (by omega)) ?_
    refine And.intro (show Int.negSucc 2147483647 ≤ 0 ∧ 0 ≤ 2147483647 from rgm (by omega)) ?_
    refine And.intro (show 0 ≤ 900 ∧ 900 ≤ 900 from by omega) ?_
    refine And.intro (show Int.negSucc 2147483647 ≤ 0 ∧ 0 ≤ 2147483647 from rgm (by omega)) ?_
    refine And.intro (show 0 ≤ 0 ∧ 0 ≤ 4 from by omega) ?_
    refine And.intro (show Int.negSucc 2147483647 ≤ 0 ∧ 0 ≤ 900 from rgm (by omega)) ?_
    have e : ∀ t, t < 78 → σ7 t = σ t := fun t ht => by rw [f7 t (by omega), f6 t (by omega), f5 t (by omega), f4 t (by omega), f3 t (by omega), vup_fr (by omega), vup_fr (by omega), f2 t (by omega), f1 t (by omega)]
    have a79 : σ7 79 = σ1 79 := by rw [f7 79 (by decide), f6 79 (by decide), f5 79 (by decide), f4 79 (by decide), f3 79 (by decide), vup_fr (by decide), vup_fr (by decide), f2 79 (by decide)]
    have a86 : σ7 86 = σ2 86 := by rw [f7 86 (by decide), f6 86 (by decide), f5 86 (by decide), f4 86 (by decide), f3 86 (by decide), vup_fr (by decide), vup_fr (by decide)]
    have a89 : σ7 89 = σ4 89 := by rw [f7 89 (by decide), f6 89 (by decide), f5 89 (by decide)]
    have a90 : σ7 90 = σ5 90 := by rw [f7 90 (by decide), f6 90 (by decide)]
    have a91 : σ7 91 = σ6 91 := by rw [f7 91 (by decide)]
    have a788 : σ7 78 8 = 0 := by rw [f7 78 (by decide), f6 78 (by decide), f5 78 (by decide), f4 78 (by decide), f3 78 (by decide), vup_ne 78 8 (by decide), vup_eq]
    have a789 : σ7 78 9 = 0 := by rw [f7 78 (by decide), f6 78 (by decide), f5 78 (by decide), f4 78 (by decide), f3 78 (by decide), vup_eq]
    have u : ∀ t, ¬ t = 7 → ¬ t = 87 → (vup (vup (vup (vup (vup (vup (vup (vup (vup σ7 87 5 0) 87 6 0) 87 7 0) 87 8 0) 87 9 0) 7 9 900) 7 10 0) 7 2 0) 7 3 0) t = σ7 t := fun t h1 h2 => by rw [vup_fr (by omega), vup_fr (by omega), vup_fr (by omega), vup_fr (by omega), vup_fr (by omega), vup_fr (by omega), vup_fr (by omega), vup_fr (by omega), vup_fr (by omega)]
    have u7 : ∀ i : Int, ¬ i = 9 → ¬ i = 10 → ¬ i = 2 → ¬ i = 3 → (vup (vup (vup (vup (vup (vup (vup (vup (vup σ7 87 5 0) 87 6 0) 87 7 0) 87 8 0) 87 9 0) 7 9 900) 7 10 0) 7 2 0) 7 3 0) 7 i = σ 7 i := fun i i1 i2 i3 i4 => by
      rw [← e 7 (by decide)]
      rw [vup_ne 7 i (fun q => by have := q.2; omega), vup_ne 7 i (fun q => by have := q.2; omega), vup_ne 7 i (fun q => by have := q.2; omega), vup_ne 7 i (fun q => by have := q.2; omega)]
      rw [vup_fr (t2 := 7) (by decide), vup_fr (t2 := 7) (by decide), vup_fr (t2 := 7) (by decide), vup_fr (t2 := 7) (by decide), vup_fr (t2 := 7) (by decide)]
    have hTB : cTB (ctx σ, σ 7 1, 900) (vup (vup (vup (vup (vup (vup (vup (vup (vup σ7 87 5 0) 87 6 0) 87 7 0) 87 8 0) 87 9 0) 7 9 900) 7 10 0) 7 2 0) 7 3 0) := by
      refine ⟨⟨?_, u7 1 (by decide) (by decide) (by decide) (by decide), ?_⟩, fun j j0 j1 => ?_, ?_⟩
      · show ctx _ = ctx σ
        unfold ctx
        rw [u 34 (by decide) (by decide), e 34 (by decide)]
      · show (vup (vup (vup (vup (vup (vup (vup (vup (vup σ7 87 5 0) 87 6 0) 87 7 0) 87 8 0) 87 9 0) 7 9 900) 7 10 0) 7 2 0) 7 3 0) 7 9 = 900
        rw [vup_ne 7 9 (by decide), vup_ne 7 9 (by decide), vup_ne 7 9 (by decide), vup_eq]
      · rw [u 35 (by decide) (by decide), e 35 (by decide)]
        exact h35 j j0 j1
      · show (vup (vup (vup (vup (vup (vup (vup (vup (vup σ7 87 5 0) 87 6 0) 87 7 0) 87 8 0) 87 9 0) 7 9 900) 7 10 0) 7 2 0) 7 3 0) 7 2 = 0
        rw [vup_ne 7 2 (by decide), vup_eq]
    have h10 : (vup (vup (vup (vup (vup (vup (vup (vup (vup σ7 87 5 0) 87 6 0) 87 7 0) 87 8 0) 87 9 0) 7 9 900) 7 10 0) 7 2 0) 7 3 0) 7 10 = 0 := by rw [vup_ne 7 10 (by decide), vup_ne 7 10 (by decide), vup_eq]
    refine And.intro ⟨(show 0 ≤ (vup (vup (vup (vup (vup (vup (vup (vup (vup σ7 87 5 0) 87 6 0) 87 7 0) 87 8 0) 87 9 0) 7 9 900) 7 10 0) 7 2 0) 7 3 0) 7 10 by rw [h10]; decide), (show 0 ≤ (vup (vup (vup (vup (vup (vup (vup (vup (vup σ7 87 5 0) 87 6 0) 87 7 0) 87 8 0) 87 9 0) 7 9 900) 7 10 0) 7 2 0) 7 3 0) 7 9 by rw [hTB.1.2.2]; show (0 : Int) ≤ 900; decide), (show (vup (vup (vup (vup (vup (vup (vup (vup (vup σ7 87 5 0) 87 6 0) 87 7 0) 87 8 0) 87 9 0) 7 9 900) 7 10 0) 7 2 0) 7 3 0) 7 9 ≤ 900 by rw [hTB.1.2.2]; show (900 : Int) ≤ 900; decide)⟩ (fun s8 (σ8 : vS) hh8 fr8 tt8 => ?_)
    have T8 : cT (ctx σ, σ 7 1, 900) 0 σ8 := cT_adv hTB h10 ⟨by decide, (by show 0 ≤ σ 7 1; omega)⟩ (by decide : (0 : Int) ≤ 900 ∧ (900 : Int) ≤ 900) hh8 fr8 tt8
    have B8 : cTb (qz nm) σ8 := by
      refine cTb_fr (σ := (vup (vup (vup (vup (vup (vup (vup (vup (vup σ7 87 5 0) 87 6 0) 87 7 0) 87 8 0) 87 9 0) 7 9 900) 7 10 0) 7 2 0) 7 3 0)) ?_ fr8.1
      refine ⟨⟨⟨?_, ?_, ?_⟩, fun i i0 i1 => ?_, fun i i0 i1 => ?_, fun i i0 i1 => ?_⟩, ⟨?_, fun k k0 k1 => ?_, ?_⟩, fun i i0 i1 => ?_, fun i i0 i1 => ?_, fun i i0 i1 => ⟨?_, ?_, ?_⟩⟩
      · rw [u 79 (by decide) (by decide), a79]; exact g1 0 (by decide) (by decide)
      · rw [u 79 (by decide) (by decide), a79]; exact g1 1 (by decide) (by decide)
      · rw [u 79 (by decide) (by decide), a79]; exact g1 2 (by decide) (by decide)
      · exact absurd (show i < 0 from i1) (by omega)
      · exact absurd (show i < 0 from i1) (by omega)
      · exact absurd (show i < 0 from i1) (by omega)
      · rw [u 78 (by decide) (by decide)]; exact a788
      · rw [u 78 (by decide) (by decide), a789, tb_0]
      · rw [u 78 (by decide) (by decide), a789]; show qpc 0 20 = 0; decide +kernel
      · exact absurd (show i < 0 from i1) (by omega)
      · rw [u 86 (by decide) (by decide), a86]; exact g2 i i0 (by show i < 72; omega)
      · rw [u 89 (by decide) (by decide), a89]; exact g4 i i0 (by show i < 6; omega)
      · rw [u 90 (by decide) (by decide), a90]; exact g5 i i0 (by show i < 6; omega)
      · rw [u 91 (by decide) (by decide), a91]; exact g6 i i0 (by show i < 6; omega)
    show zGC E md72 w gm_101 23 [(0, .inr (.inl 9)), (1, .inr (.inl 7)), (2, .inl 0)] σ8 K
    refine vk_101l X B (x := (ctx σ, σ 7 1, 900)) (by decide : (0 : Int) ≤ 900 ∧ (900 : Int) ≤ 900) 1000 0 (qz nm) σ8 (by omega) (by omega) (Int.le_refl _) (by omega) T8 B8 ⟨⟨Int.le_refl _, by show 0 ≤ σ 7 1; omega⟩, (by decide : (0 : Int) ≤ 0 ∧ (0 : Int) ≤ 6), (by decide : (0 : Int) ≤ 0 ∧ (0 : Int) ≤ 6), (by decide : (0 : Int) ≤ 0 ∧ (0 : Int) ≤ 12), (by decide : (0 : Int) ≤ 0 ∧ (0 : Int) ≤ 20), (by decide : (0 : Int) ≤ 0 ∧ (0 : Int) ≤ 0), fun i a b => by have b : i < 0 := b; omega, fun i _ _ => ⟨⟨Int.le_refl _, by show (0 : Int) ≤ 12; decide⟩, Int.le_refl _, by show (0 : Int) ≤ 6; decide⟩, fun i _ _ => ⟨Int.le_refl _, by show (0 : Int) ≤ 9; decide⟩⟩ (fun c σ9 T9 B9 => hC c σ9 T9.1.2.2 B9) (fun c σ9 F9 => hF c σ9 F9.1 (by rw [F9.2]; exact (qloop_a _ _ _ c).symm))
  · exact absurd h id
end ZV6
