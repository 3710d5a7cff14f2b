/-! THE REFERENCE'S BOOK -/
noncomputable section
def us184 : vSpL := fun vs σ K => match vs with
  | [.inr (.inl 12), .inl q] => (-2147483648 ≤ q ∧ q ≤ 2147483647) ∧ vX σ ∧ (∀ j : Int, 0 ≤ j → j < 30 → σ 56 j = qrw j) ∧ (¬ (0 ≤ q ∧ q ≤ 1) → K (some (.inl (-1000))) (vup σ 12 0 0)) ∧ (0 ≤ q ∧ q ≤ 1 → ((qBk (rtx σ, σ 12 2, 400) (σ 55) (σ 52 1) (σ 52 2) 1000 0 0).1 = 0 → ∀ (z : Int) (σ2 : vS), vX σ2 → σ2 12 2 = 0 → σ2 12 15 = 0 → (∀ i : Int, 0 ≤ i → i < 179 → σ2 52 i = σ 52 i) → (∀ i : Int, 0 ≤ i → σ2 55 i = σ 55 i) → K (some (.inl z)) σ2) ∧ (¬ (qBk (rtx σ, σ 12 2, 400) (σ 55) (σ 52 1) (σ 52 2) 1000 0 0).1 = 0 → ∀ (z : Int) (σ2 : vS), vX σ2 → σ2 12 2 = 0 → σ2 12 15 = (qBk (rtx σ, σ 12 2, 400) (σ 55) (σ 52 1) (σ 52 2) 1000 0 0).1 → (∀ i : Int, 0 ≤ i → i < 179 → σ2 52 i = σ 52 i) → (∀ i : Int, 0 ≤ i → σ2 55 i = σ 55 i) → K (some (.inl z)) σ2))
  | _ => False
end
section ZVB3
variable {E : zE} {w : va_W} {σ : vS} {K : vKL}
/-- .. from where its LINES are read on -/
theorem uk_184R (X : zX gKX E) (B : zB E) (A2 : zA E gjl) {q : Int} (hq : 0 ≤ q ∧ q ≤ 1) (hX : vX σ) (hr : ∀ i : Int, 0 ≤ i → i < σ 12 42 → rRow (σ 54) i) (hK : ∀ (z : Int) (σ2 : vS), vX σ2 → (∀ (t : Nat) (i : Int), zuq t = true → 0 ≤ i → (∀ q ∈ gc_184_r.2.2.2, ¬ (q.1 = t ∧ (q.2.1 : Int) ≤ i ∧ i < (q.2.2 : Int))) → σ2 t i = σ t i) → K (some (.inl z)) σ2) : zGL E gJ1 mdB w gm_184 83 [(0, .inr (.inl 12)), (1, .inl q)] σ K := by
  refine z_midL (vs := [.inr (.inl 12), .inl q]) (c := gc_184_r) B (c_mid (XT := gXTm) (q := (gm_184, 7)) (z_val B A2 (zP_cons rfl (zF_cons (zcb_177_0 B A2) zF_nil) (zP_cons rfl (zF_cons (zcb_188_0 B A2) zF_nil) (zP_cons rfl (zF_cons (zcb_198_0 B A2) zF_nil) (zP_cons rfl (zF_cons (zcb_207_0 B A2) (zF_cons (zcb_207_1 B A2) (zF_cons (zcb_207_2 B A2) (zF_cons (zcb_207_3 B A2) (zF_cons (zcb_207_4 B A2) zF_nil))))) (zP_cons rfl (zF_cons (zcb_223_0 B A2) zF_nil) (zP_cons rfl (zF_cons (zcb_232_0 B A2) zF_nil) (zP_cons rfl (zF_cons (zcb_240_0 B A2) zF_nil) (zP_cons rfl (zF_cons (z_weak (zc_271b B A2.2.1)) zF_nil) (zP_cons rfl (zF_cons (zcb_281_0 B A2) zF_nil) (zP_cons rfl (zF_cons (zcb_288_0 B A2) zF_nil) zP_nil))))))))))) rfl (by decide) (by decide) (fun t ht => List.all_eq_true.mp (show elens gm_184 = true from by decide +kernel) t ht) gkr_184) (fun ws h1 h2 => z_jr h1 h2 hr) ⟨rfl, hq, trivial⟩ hX (by decide +kernel) (fun al hal ret σ2 g1 g2 g3 => ?_)
  have e := List.mem_singleton.mp hal
  subst e
  match ret, g1 with
  | some (.inl z), _ => exact hK z σ2 g2 g3
  | some (.inr _), g => exact absurd g id
  | none, g => exact absurd g id
set_option maxRecDepth 16384 in
theorem uk_184n (X : zX gKX E) (B : zB E) {q : Int} (hq : -2147483648 ≤ q ∧ q ≤ 2147483647) (hn : ¬ (0 ≤ q ∧ q ≤ 1)) (hK : K (some (.inl (-1000))) (vup σ 12 0 0)) : zGL E gJ1 [(12, 0, 1)] w gm_184 0 [(0, .inr (.inl 12)), (1, .inl q)] σ K := by
  refine zbdL (fun hb => zgoL X B zS_nilL [] [(18, [0, 1])] (fun m => Nat.beq m.2.2.2.2.2.2.length 213) (by decide +kernel) ?_)
  refine And.intro (show Int.negSucc 2147483647 ≤ 0 ∧ 0 ≤ 2147483647 from rgm (by omega)) ?_
  refine And.intro (fun (c1 : q < 0) => ?_) (fun (c2 : 0 ≤ q) => ?_)
  · refine And.intro (show 0 ≤ 0 ∧ 0 ≤ 1 from by omega) ?_
    refine And.intro (fun (q : ¬ 0 = 0) => absurd q (by decide)) (fun _ => ?_)
    show K (some (.inl (-1000))) (vup σ 12 0 0)
    exact hK
  · refine And.intro (fun (c3 : 1 < q) => ?_) (fun (c4 : q ≤ 1) => ?_)
    · refine And.intro (show 0 ≤ 0 ∧ 0 ≤ 1 from by omega) ?_
      refine And.intro (fun (q : ¬ 0 = 0) => absurd q (by decide)) (fun _ => ?_)
      show K (some (.inl (-1000))) (vup σ 12 0 0)
      exact hK
    · refine And.intro (show 0 ≤ 1 ∧ 1 ≤ 1 from by omega) ?_
      refine And.intro (fun _ => ?_) (fun (q : 1 = 0) => absurd q (by decide))
      exfalso; omega
set_option maxRecDepth 16384 in
theorem uk_184 (X : zX gKX E) (B : zB E) (A2 : zA E gjl) : zOKL E gJ1 mdB w 184 us184 := by
  intro q hq vs σ K h
  cases (show gMT 184 = some (gm_184, 7) from rfl).symm.trans hq
  unfold us184 at h
  split at h
  · rename_i q
    obtain ⟨hq, hX, hR, h0, h1⟩ := h
    show zGL E gJ1 mdB w gm_184 0 [(0, .inr (.inl 12)), (1, .inl q)] σ K
    refine zbdL (fun hb => zgoL X B (uBK_ok X B) [] [(39, [0, 1]), (83, [0, 1])] (fun m => Nat.beq m.2.2.2.2.2.2.length 213) (by decide +kernel) ?_)
    refine And.intro (show Int.negSucc 2147483647 ≤ 0 ∧ 0 ≤ 2147483647 from rgm (by omega)) ?_
    refine And.intro (fun (c1 : q < 0) => ?_) (fun (c2 : 0 ≤ q) => ?_)
    · refine And.intro (show 0 ≤ 0 ∧ 0 ≤ 1 from by omega) ?_
      refine And.intro (fun (q : ¬ 0 = 0) => absurd q (by decide)) (fun _ => ?_)
      show K (some (.inl (-1000))) (vup σ 12 0 0)
      exact h0 (by omega)
    · refine And.intro (fun (c3 : 1 < q) => ?_) (fun (c4 : q ≤ 1) => ?_)
      · refine And.intro (show 0 ≤ 0 ∧ 0 ≤ 1 from by omega) ?_
        refine And.intro (fun (q : ¬ 0 = 0) => absurd q (by decide)) (fun _ => ?_)
        show K (some (.inl (-1000))) (vup σ 12 0 0)
        exact h0 (by omega)
      · refine And.intro (show 0 ≤ 1 ∧ 1 ≤ 1 from by omega) ?_
        refine And.intro (fun _ => ?_) (fun (q : 1 = 0) => absurd q (by decide))
        have f5 : 0 ≤ σ 12 2 ∧ σ 12 2 ≤ 940 := zfL B hb (t := 12) (f := 2) (by decide +kernel)
        refine And.intro (show 0 ≤ (σ 12 2) ∧ (σ 12 2) ≤ 940 from by omega) ?_
        refine And.intro (show 0 ≤ 0 ∧ 0 ≤ 940 from by omega) ?_
        refine And.intro (show 0 ≤ 0 ∧ 0 ≤ 940 from by omega) ?_
        refine And.intro (show 0 ≤ 400 ∧ 400 ≤ 940 from by omega) ?_
        refine And.intro (show Int.negSucc 2147483647 ≤ 0 ∧ 0 ≤ 2147483647 from rgm (by omega)) ?_
        refine And.intro (show 0 ≤ 0 ∧ 0 ≤ 40 from by omega) ?_
        refine fun (σ1 : vS) (f1 : rfr (vup (vup (vup (vup (vup (vup (vup σ 12 0 0) 12 3 (σ 12 2)) 12 2 0) 12 4 0) 12 5 400) 12 15 0) 12 42 0) σ1) t1 => ?_
        have T1 : rT (rtx σ, σ 12 2, 400) 0 σ1 := rT_adv (p := 0) (x := (rtx σ, σ 12 2, 400)) (σ := (vup (vup (vup (vup (vup (vup (vup σ 12 0 0) 12 3 (σ 12 2)) 12 2 0) 12 4 0) 12 5 400) 12 15 0) 12 42 0)) ⟨⟨rfl, rfl, rfl, rfl, hX⟩, hR, rfl⟩ rfl ⟨Int.le_refl _, by show 0 ≤ σ 12 2; omega⟩ f1 t1
        have k42 : σ1 12 42 = 0 := f1.2 42 (by decide) (by decide) (by decide) (by decide) (by decide) (by decide)
        have k52 : σ1 52 = σ 52 := f1.1 52 (by decide)
        have k55 : σ1 55 = σ 55 := f1.1 55 (by decide)
        show zGL E gJ1 mdB w gm_184 39 [(0, .inr (.inl 12)), (1, .inl q)] σ1 K
        obtain ⟨hC, hF⟩ := h1 (by omega)
        refine uk_184L X B (x := (rtx σ, σ 12 2, 400)) (σ0 := σ) ⟨(by decide : (0 : Int) ≤ 400), (by decide : (400 : Int) ≤ 940)⟩ 1000 0 0 σ1 (by decide) ⟨by decide, by decide⟩ T1 k42 k52 k55 (fun i a b => by omega) (fun c σ2 T2 r2 g42 g52 g55 => ?_) (fun c σ2 F a b => hF c _ σ2 F.2.2.2.1 F.2.2.1 F.1 (fun i _ _ => by rw [a]) (fun i _ => by rw [b]))
        exact uk_184R X B A2 (by omega) T2.1.1.2.2.2.2 (fun i a b => r2 i a (by rw [← g42]; exact b)) (fun z σ3 x3 fr => hC c z σ3 x3 ((fr 12 2 rfl (by decide) (by decide)).trans T2.1.1.2.2.2.1) ((fr 12 15 rfl (by decide) (by decide)).trans T2.1.2.2) (fun i i0 i1 => (fr 52 i rfl i0 (fun q hq e => by
          have g := (by decide : ∀ q ∈ gc_184_r.2.2.2, q.1 = 52 → 179 ≤ q.2.1) q hq e.1
          omega)).trans (by rw [g52])) (fun i i0 => (fr 55 i rfl i0 (fun q hq e => absurd e.1 ((by decide : ∀ q ∈ gc_184_r.2.2.2, ¬ q.1 = 55) q hq))).trans (by rw [g55])))
  · exact absurd h id
end ZVB3
