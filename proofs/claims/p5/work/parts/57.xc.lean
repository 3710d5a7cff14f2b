/-! THE REFERENCE READS A BOOK: the loop -/
section QBL2
variable {x : qX} {nm : Int → Int} {m1 m2 n p : Int} {k : Nat}
theorem qLn_ok (hm : 0 ≤ m1) (h : (qLn x nm m1 m2 n p).1 = 0) : ¬ n = 40 := by
  intro hn
  by_cases h1 : 0 ≤ qVe x p
  · rw [qLn_4 h1 hn] at h; exact absurd h (by decide : ¬ (4 : Int) = 0)
  · have e : qLn x nm m1 m2 n p = if ¬ (qOw x nm m1 p).1 = 0 then qOw x nm m1 p else if n = 40 then (4, p) else if qVd x (qnx x.1 x.2.1 p) < 0 then (1, qnx x.1 x.2.1 p) else qD2 x nm m1 m2 (qVd x (qnx x.1 x.2.1 p)) (qnx x.1 x.2.1 (qnx x.1 x.2.1 p)) := if_neg h1
    by_cases h2 : (qOw x nm m1 p).1 = 0
    · rw [if_neg (fun q => q h2), if_pos hn] at e
      rw [e] at h
      exact absurd h (by decide : ¬ (4 : Int) = 0)
    · rw [if_pos h2] at e
      rw [e] at h
      exact h2 h
theorem qBk_e (h : qkd x.1 x.2.1 x.2.2 p = 0) : qBk x nm m1 m2 (k + 1) n p = (0, p, n) := if_pos h
theorem qBk_f (h : ¬ qkd x.1 x.2.1 x.2.2 p = 0) (h2 : ¬ (qLn x nm m1 m2 n p).1 = 0) : qBk x nm m1 m2 (k + 1) n p = ((qLn x nm m1 m2 n p).1, (qLn x nm m1 m2 n p).2, n) := (if_neg h).trans (if_pos h2)
theorem qBk_g (h : ¬ qkd x.1 x.2.1 x.2.2 p = 0) (h2 : (qLn x nm m1 m2 n p).1 = 0) (h3 : qsn x (qLn x nm m1 m2 n p).2 59 = true) : qBk x nm m1 m2 (k + 1) n p = qBk x nm m1 m2 k (n + 1) (qnx x.1 x.2.1 (qLn x nm m1 m2 n p).2) := (if_neg h).trans ((if_neg (fun q => q h2)).trans (if_pos h3))
theorem qBk_1 (h : ¬ qkd x.1 x.2.1 x.2.2 p = 0) (h2 : (qLn x nm m1 m2 n p).1 = 0) (h3 : qsn x (qLn x nm m1 m2 n p).2 59 = false) : qBk x nm m1 m2 (k + 1) n p = (1, (qLn x nm m1 m2 n p).2, n) := (if_neg h).trans ((if_neg (fun q => q h2)).trans (if_neg (by rw [h3]; exact Bool.false_ne_true)))
theorem rRow_cg {R Q : Int → Int} {i m : Int} (hi : 0 ≤ i ∧ i < m) (e : ∀ j : Int, 0 ≤ j → j < 4 * m → Q j = R j) (h : rRow R i) : rRow Q i := by
  unfold rRow at h ⊢
  rw [e _ (by omega) (by omega), e _ (by omega) (by omega), e _ (by omega) (by omega), e _ (by omega) (by omega)]
  exact h
end QBL2
section ZVB2
variable {E : zE} {w : va_W} {σ : vS} {K : vKL}
noncomputable section
def mdB : aMd := mdT ++ [(57, 0, 336), (58, 0, 42), (71, 0, 4)]
def uBK : List (Nat × vSpL) := (185, us185) :: (270, us270) :: (271, rs271) :: []
end
/-- more may be written -/
theorem zOKL_mo {md md2 : aMd} {m : Nat} {sp : vSpL} (hm : amds md2 md = true) (H : ∀ w : va_W, zOKL E gJ1 md w m sp) : zOKL E gJ1 md2 w m sp := by
  intro q hq vs σ K h Kg lv stA ws hW hl hs hK
  exact H ws q hq vs σ K h Kg lv stA ws ⟨hW.1, hW.2.1, fRel_refl, hW.2.2.2⟩ hl hs (fun ret σ2 ws2 rv hk hW2 hrt => hK ret σ2 ws2 rv hk ⟨hW2.1, hW2.2.1, fRel_tr hW.2.2.1 hW2.2.2.1 (amds_ok hm), hW2.2.2.2⟩ hrt)
theorem zOKC_mo {md md2 : aMd} {m : Nat} {sp : vSpL} (hm : amds md2 md = true) (H : ∀ w : va_W, zOKC E md w m sp) : zOKC E md2 w m sp := by
  intro q hq vs σ K h Kg lv stA ws hW hl hs hK
  exact H ws q hq vs σ K h Kg lv stA ws ⟨hW.1, hW.2.1, fRel_refl, hW.2.2.2⟩ hl hs (fun ret σ2 ws2 rv hk hW2 hrt => hK ret σ2 ws2 rv hk ⟨hW2.1, hW2.2.1, fRel_tr hW.2.2.1 hW2.2.2.1 (amds_ok hm), hW2.2.2.2⟩ hrt)
theorem uBK_ok (X : zX gKX E) (B : zB E) : zSL E gJ1 mdB w uBK := zS_consL (zOKL_mo (by decide +kernel) fun _ => uk_185 X B) (zS_consL (zOKL_mo (by decide +kernel) fun _ => uk_270 X B) (zS_consL (zOKL_mo (by decide +kernel) fun _ => rk_271 X B) zS_nilL))
set_option maxRecDepth 16384 in
theorem uk_184L (X : zX gKX E) (B : zB E) {x : qX} {σ0 : vS} {q : Int} (hl0 : 0 ≤ x.2.2 ∧ x.2.2 ≤ 940) : ∀ (k : Nat) (n p : Int) (σ : vS), n + (k : Int) = 1000 → (0 ≤ n ∧ n ≤ 40) → rT x p σ → σ 12 42 = n → σ 52 = σ0 52 → σ 55 = σ0 55 → (∀ i : Int, 0 ≤ i → i < n → rRow (σ 54) i) → ((qBk x (σ0 55) (σ0 52 1) (σ0 52 2) k n p).1 = 0 → ∀ σ2 : vS, rT x (qBk x (σ0 55) (σ0 52 1) (σ0 52 2) k n p).2.1 σ2 → (∀ i : Int, 0 ≤ i → i < (qBk x (σ0 55) (σ0 52 1) (σ0 52 2) k n p).2.2 → rRow (σ2 54) i) → σ2 12 42 = (qBk x (σ0 55) (σ0 52 1) (σ0 52 2) k n p).2.2 → σ2 52 = σ0 52 → σ2 55 = σ0 55 → zGL E gJ1 mdB w gm_184 83 [(0, .inr (.inl 12)), (1, .inl q)] σ2 K) → (¬ (qBk x (σ0 55) (σ0 52 1) (σ0 52 2) k n p).1 = 0 → ∀ σ2 : vS, rFl x (qBk x (σ0 55) (σ0 52 1) (σ0 52 2) k n p).1 (qBk x (σ0 55) (σ0 52 1) (σ0 52 2) k n p).2.1 σ2 → σ2 52 = σ0 52 → σ2 55 = σ0 55 → K (some (.inl (-2 - qat x.1 x.2.1 x.2.2 (qBk x (σ0 55) (σ0 52 1) (σ0 52 2) k n p).2.1))) σ2) → zGL E gJ1 mdB w gm_184 39 [(0, .inr (.inl 12)), (1, .inl q)] σ K := by
  obtain ⟨hl0, hl9⟩ := hl0
  intro k
  induction k with
  | zero => intro n p σ h hn; omega
  | succ k ih =>
    intro n p σ hk hn hT e42 e52 e55 hr hC hF
    refine zbdL (fun hb => zgoL X B (uBK_ok X B) [] [(39, [0, 1]), (83, [0, 1])] (fun m => Nat.beq m.2.2.2.2.2.2.length 213) (by decide +kernel) ?_)
    have f1 : 0 ≤ σ 12 11 ∧ σ 12 11 ≤ 4 := zfL B hb (t := 12) (f := 11) (by decide +kernel)
    refine And.intro (fun (c2 : (σ 12 11) = 0) => ?_) (fun (c3 : ¬ (σ 12 11) = 0) => ?_)
    · show zGL E gJ1 mdB w gm_184 83 [(0, .inr (.inl 12)), (1, .inl q)] σ K
      rw [qBk_e (by rw [← hT.2.1.1]; omega)] at hC
      exact hC rfl σ hT hr e42 e52 e55
    · have hk0 : ¬ qkd x.1 x.2.1 x.2.2 p = 0 := by rw [← hT.2.1.1]; omega
      have b1 : 0 ≤ σ 52 1 ∧ σ 52 1 ≤ 6 := zbL B hb (t := 52) (a := 0) (n := 2) (i := 1) (by decide +kernel) (by decide) (by decide)
      have b2 : 0 ≤ σ 52 2 ∧ σ 52 2 ≤ 12 := zbL B hb (t := 52) (a := 2) (n := 3) (i := 2) (by decide +kernel) (by decide) (by decide)
      refine ⟨x, p, hT, ⟨⟨by omega, by omega⟩, b1, b2⟩, ?_⟩
      rw [e52] at b1
      rw [e42, e52, e55]
      refine ⟨fun c1 (σ1 : vS) F1 g42 g52 g55 => ?_, fun c1 (σ1 : vS) T1 gB gR g42 g52 g55 => ?_⟩
      · have fb : 0 ≤ σ1 12 16 ∧ σ1 12 16 ≤ 940 := by rw [F1.2.1]; have := (q_bd (τ := x.1) F1.2.2.2.2.1 F1.2.2.2.2.2 (lim := x.2.2) hl0).1; omega
        refine And.intro (fun _ => ?_) (fun (q : ¬ 0 = 0) => absurd q (by decide))
        refine And.intro (show -2147483648 ≤ ((-2) - (σ1 12 16)) ∧ ((-2) - (σ1 12 16)) ≤ 2147483647 from by omega) ?_
        rw [qBk_f hk0 c1] at hF
        have g : K (some (.inl (-2 - qat x.1 x.2.1 x.2.2 (qLn x (σ0 55) (σ0 52 1) (σ0 52 2) n p).2))) σ1 := hF c1 σ1 F1 g52 g55
        rw [← F1.2.1] at g
        exact g
      · have hn40 := qLn_ok b1.1 c1
        refine And.intro (fun (q : 1 = 0) => absurd q (by decide)) (fun _ => ?_)
        refine ⟨x, (qLn x (σ0 55) (σ0 52 1) (σ0 52 2) n p).2, T1, fun c2 (σ2 : vS) F2 G2 => ?_, fun c2 (σ2 : vS) T2 G2 => ?_⟩
        · have fb : 0 ≤ σ2 12 16 ∧ σ2 12 16 ≤ 940 := by rw [F2.2.1]; have := (q_bd (τ := x.1) F2.2.2.2.2.1 F2.2.2.2.2.2 (lim := x.2.2) hl0).1; omega
          refine And.intro (fun (q : ¬ 0 = 0) => absurd q (by decide)) (fun _ => ?_)
          refine And.intro (show -2147483648 ≤ ((-2) - (σ2 12 16)) ∧ ((-2) - (σ2 12 16)) ≤ 2147483647 from by omega) ?_
          rw [qBk_1 hk0 c1 c2] at hF
          have g : K (some (.inl (-2 - qat x.1 x.2.1 x.2.2 (qLn x (σ0 55) (σ0 52 1) (σ0 52 2) n p).2))) σ2 := hF (by show ¬ ((1 : Int) = 0); decide) σ2 F2 ((G2.1 52 (by decide)).trans g52) ((G2.1 55 (by decide)).trans g55)
          rw [← F2.2.1] at g
          exact g
        · have k42 : σ2 12 42 = n := (G2.2 42 (by decide) (by decide)).trans g42
          refine And.intro (fun _ => ?_) (fun (q : 1 = 0) => absurd q (by decide))
          refine And.intro (show -2147483648 ≤ ((σ2 12 42) + 1) ∧ ((σ2 12 42) + 1) ≤ 2147483647 from by omega) ?_
          refine And.intro (show 0 ≤ ((σ2 12 42) + 1) ∧ ((σ2 12 42) + 1) ≤ 40 from by omega) ?_
          show zGL E gJ1 mdB w gm_184 39 [(0, .inr (.inl 12)), (1, .inl q)] (vup σ2 12 42 ((σ2 12 42) + 1)) K
          rw [qBk_g hk0 c1 c2] at hC hF
          refine ih (n + 1) _ (vup σ2 12 42 ((σ2 12 42) + 1)) (by omega) ⟨by omega, by omega⟩ (rT_u T2 (by decide)) (show σ2 12 42 + 1 = n + 1 from by omega) ((vup_fr (by decide)).trans ((G2.1 52 (by decide)).trans g52)) ((vup_fr (by decide)).trans ((G2.1 55 (by decide)).trans g55)) (fun i i0 i1 => ?_) hC hF
          have e54 : vup σ2 12 42 (σ2 12 42 + 1) 54 = σ1 54 := (vup_fr (by decide)).trans (G2.1 54 (by decide))
          show rRow (vup σ2 12 42 (σ2 12 42 + 1) 54) i
          rw [e54]
          by_cases hi : i = n
          · rw [hi]; exact gR
          · exact rRow_cg (m := n) ⟨i0, by omega⟩ gB (hr i i0 (by omega))
end ZVB2
