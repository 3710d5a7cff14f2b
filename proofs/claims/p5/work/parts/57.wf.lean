/-! THE REFERENCE READS A SENTENCE -/
noncomputable section
def qse (σ : vS) : qA := qsq (rtx σ, σ 12 2, 200) (σ 55) (σ 52 0) (σ 52 1) 1000 false 1 1 [] 0 0
def us268 : vSpL := fun vs σ K => match vs with
  | [.inr (.inl 12)] => vX σ ∧ (∀ j : Int, 0 ≤ j → j < 30 → σ 56 j = qrw j) ∧ ((qse σ).1 = 0 → ∀ σ2, vX σ2 → σ2 12 2 = 0 → σ2 12 15 = 0 → (∀ i : Int, 0 ≤ i → i < 221 → σ2 52 i = σ 52 i) → σ2 55 = σ 55 → K (some (.inl (qse σ).2.2)) σ2) ∧ (¬ (qse σ).1 = 0 → ∀ σ2, vX σ2 → σ2 12 2 = 0 → σ2 12 15 = (qse σ).1 → σ2 52 = σ 52 → σ2 55 = σ 55 → K (some (.inl (-1 - qat (rtx σ) (σ 12 2) 200 (qse σ).2.1))) σ2)
  | _ => False
def uSE : List (Nat × vSpL) := (243, us243) :: (231, us231) :: (178, rs178) :: (271, rs271) :: (247, us247) :: (180, us180) :: []
end
section QSQ
variable {x : qX} {nm : Int → Int} {mh mo d b o p : Int} {L : List Int} {n : Nat} {w : Bool}
theorem qsq_e (h : qkd x.1 x.2.1 x.2.2 p = 0) : qsq x nm mh mo (n + 1) true d b [] o p = (0, p, o) := (if_pos ⟨rfl, h⟩).trans (if_pos rfl)
theorem qsq_b {b2 : Int} {L2 : List Int} (h : qkd x.1 x.2.1 x.2.2 p = 0) : qsq x nm mh mo (n + 1) true d b (b2 :: L2) o p = (1, p, o) := (if_pos ⟨rfl, h⟩).trans (if_neg (by simp))
theorem qsq_bg (h : ¬ qkd x.1 x.2.1 x.2.2 p = 0) (h2 : (qbh x b L o p).1 = 0) : qsq x nm mh mo (n + 1) true d b L o p = qsq x nm mh mo n (qbh x b L o p).2.2.1 (qbh x b L o p).2.2.2.1 (qbh x b L o p).2.2.2.2.1 (qbh x b L o p).2.2.2.2.2.1 (qbh x b L o p).2.2.2.2.2.2 (qbh x b L o p).2.1 := (if_neg (fun q => h q.2)).trans (if_pos h2)
theorem qsq_bf (h : ¬ qkd x.1 x.2.1 x.2.2 p = 0) (h2 : ¬ (qbh x b L o p).1 = 0) : qsq x nm mh mo (n + 1) true d b L o p = ((qbh x b L o p).1, (qbh x b L o p).2.1, (qbh x b L o p).2.2.2.2.2.2) := (if_neg (fun q => h q.2)).trans (if_neg h2)
theorem qsq_og (h2 : (qop x nm mh mo d b L o p).1 = 0) : qsq x nm mh mo (n + 1) false d b L o p = qsq x nm mh mo n (qop x nm mh mo d b L o p).2.2.1 (qop x nm mh mo d b L o p).2.2.2.1 (qop x nm mh mo d b L o p).2.2.2.2.1 (qop x nm mh mo d b L o p).2.2.2.2.2.1 (qop x nm mh mo d b L o p).2.2.2.2.2.2 (qop x nm mh mo d b L o p).2.1 := (if_neg (fun q => Bool.false_ne_true q.1)).trans (if_pos h2)
theorem qsq_of (h2 : ¬ (qop x nm mh mo d b L o p).1 = 0) : qsq x nm mh mo (n + 1) false d b L o p = ((qop x nm mh mo d b L o p).1, (qop x nm mh mo d b L o p).2.1, (qop x nm mh mo d b L o p).2.2.2.2.2.2) := (if_neg (fun q => Bool.false_ne_true q.1)).trans (if_neg h2)
theorem qnx_up (hl : 0 ≤ x.2.2) (h0 : 0 ≤ p) (h1 : p ≤ x.2.1) (h : ¬ qkd x.1 x.2.1 x.2.2 p = 0) (h4 : ¬ qkd x.1 x.2.1 x.2.2 p = 4) : p + 1 ≤ qnx x.1 x.2.1 p ∧ qnx x.1 x.2.1 p ≤ x.2.1 :=
  have g := (q_bd (τ := x.1) h0 h1 (lim := x.2.2) hl).2.1 ⟨h, h4⟩
  ⟨g.1, g.2.1⟩
theorem qnx_le (hl : 0 ≤ x.2.2) (h0 : 0 ≤ p) (h1 : p ≤ x.2.1) : p ≤ qnx x.1 x.2.1 p ∧ qnx x.1 x.2.1 p ≤ x.2.1 :=
  have g := (q_bd (τ := x.1) h0 h1 (lim := x.2.2) hl).2.2
  ⟨qnx_ge h1, g.2⟩
theorem qbeg_k2 (h : ¬ qbeg x p = -1) : ¬ qkd x.1 x.2.1 x.2.2 p = 0 := by
  unfold qbeg at h
  split at h
  · rename_i q; have := qisw_k q; omega
  split at h
  · rename_i q; have := qsn_k q; omega
  have := qlfi_b (x := x) (p := p)
  have := qlfi_k (x := x) (p := p) (by omega)
  omega
/-- a step goes on -/
theorem qop_up (hl : 0 ≤ x.2.2) (h0 : 0 ≤ p) (h1 : p ≤ x.2.1) (h : (qop x nm mh mo d b L o p).1 = 0) : p + 1 ≤ (qop x nm mh mo d b L o p).2.1 ∧ (qop x nm mh mo d b L o p).2.1 ≤ x.2.1 := by
  by_cases e : qbeg x p = -1
  · rw [qop_1 e] at h; exact absurd h (by decide : ¬ (1 : Int) = 0)
  have a := qnx_up hl h0 h1 (qbeg_k2 e) (qbeg_k e)
  have a2 := qnx_le (p := qnx x.1 x.2.1 p) hl (by omega) a.2
  have a3 := qnx_le (p := qnx x.1 x.2.1 (qnx x.1 x.2.1 p)) hl (by omega) a2.2
  have hb := qlfi_b (x := x) (p := p)
  have hq : qbeg x p = 8 ∨ qbeg x p = 9 ∨ qbeg x p = qlfi x p := by
    unfold qbeg
    split
    · exact Or.inl rfl
    split
    · exact Or.inr (Or.inl rfl)
    · exact Or.inr (Or.inr rfl)
  by_cases e2 : o = 20 ∨ 8 < d
  · rw [qop_4 e e2] at h; exact absurd h (by decide : ¬ (4 : Int) = 0)
  by_cases e8 : qbeg x p = 8
  · rw [qop_8 e8 e2]; exact a
  by_cases e9 : qbeg x p = 9
  · rw [qop_9 e9 e2]; exact a
  by_cases el : qbeg x p < 2
  · rw [qop_l ⟨by omega, el⟩ e2]; exact a
  by_cases em : qbeg x p < 4
  · rw [qop_m ⟨by omega, em⟩ e2] at h ⊢
    split at h
    · rename_i q
      have h : -(qofn x nm mh mo (qbeg x p) (qnx x.1 x.2.1 p)) = 0 := h
      omega
    · rename_i q
      rw [if_neg q]
      exact ⟨Int.le_trans a.1 a2.1, a2.2⟩
  · rw [qop_s ⟨by omega, by omega⟩ e2] at h ⊢
    split at h
    · rename_i q
      rw [if_pos q]
      split at h
      · rename_i q2
        rw [if_pos q2]
        exact ⟨Int.le_trans a.1 (Int.le_trans a2.1 a3.1), a3.2⟩
      · exact absurd h (by decide : ¬ (1 : Int) = 0)
    · exact absurd h (by decide : ¬ (1 : Int) = 0)
theorem qbh_up (hl : 0 ≤ x.2.2) (h0 : 0 ≤ p) (h1 : p ≤ x.2.1) (h : (qbh x b L o p).1 = 0) : p + 1 ≤ (qbh x b L o p).2.1 ∧ (qbh x b L o p).2.1 ≤ x.2.1 := by
  by_cases e : qisw x p (qrw 20) = true ∨ qisw x p (qrw 19) = true
  · rw [qbh_j e]
    have k : qkd x.1 x.2.1 x.2.2 p = 1 := e.elim qisw_k qisw_k
    exact qnx_up hl h0 h1 (by omega) (by omega)
  cases L with
  | nil => rw [qbh_e e] at h; exact absurd h (by decide : ¬ (1 : Int) = 0)
  | cons b2 L2 =>
    by_cases e2 : qsn x p 41 = true
    · rw [qbh_p e e2]
      have k := qsn_k e2
      exact qnx_up hl h0 h1 (by omega) (by omega)
    · rw [qbh_f e e2] at h; exact absurd h (by decide : ¬ (1 : Int) = 0)
end QSQ
section ZV5
variable {E : zE} {w : va_W} {σ : vS} {K : vKL}
theorem uSE_ok (X : zX gKX E) (B : zB E) : zSL E gJ1 mdT w uSE := zS_consL (uk_243 X B) (zS_consL (uk_231 X B) (zS_consL (rk_178 X B) (zS_consL (rk_271 X B) (zS_consL (uk_247 X B) (zS_consL (uk_180 X B) zS_nilL)))))
theorem uk_268C (X : zX gKX E) (B : zB E) {c o : Int} {h f : Int → Int} (c0 : 0 ≤ c ∧ c ≤ 40) (hK : ∀ σ2, vX σ2 → σ2 12 2 = 0 → σ2 12 15 = 0 → (∀ i : Int, 0 ≤ i → i < 221 → σ2 52 i = h i) → σ2 55 = f → K (some (.inl o)) σ2) : ∀ (m : Nat) (i : Int) (σ : vS), 3 * c - i < (m : Int) → 0 ≤ i → i ≤ 3 * c → (xVPz (σ 74) 221 ∧ xVPz (σ 74) 623) → σ 12 46 = c → σ 52 221 = c → (∀ j : Int, 0 ≤ j → j < i → σ 52 (222 + j) = σ 54 j) → zVP (σ 54) c.toNat → σ 12 47 = o → σ 12 2 = 0 → σ 12 15 = 0 → (∀ i : Int, 0 ≤ i → i < 221 → σ 52 i = h i) → σ 55 = f → zGL E gJ1 mdT w gm_268 146 [(0, .inr (.inl 12)), (2, .inl i)] σ K := by
  intro m
  induction m with
  | zero => intro i σ h; omega
  | succ m ih =>
    intro i σ hm h0 h1 hX4 hc h221 hC hV ho h2 h15 hh hf
    refine zbdL (fun hb => zgoL X B (uSE_ok X B) [] [(48, [0, 1]), (146, [0, 2])] (fun m => Nat.beq m.2.2.2.2.2.2.length 100) (by decide +kernel) ?_)
    have f1 : 0 ≤ σ 12 46 ∧ σ 12 46 ≤ 53 := zfL B hb (t := 12) (f := 46) (by decide +kernel)
    refine And.intro (show -2147483648 ≤ (3 * (σ 12 46)) ∧ (3 * (σ 12 46)) ≤ 2147483647 from by omega) ?_
    refine And.intro (fun (c2 : (3 * (σ 12 46)) ≤ i) => ?_) (fun (c3 : i < (3 * (σ 12 46))) => ?_)
    · have f4 : (-2147483648) ≤ σ 12 47 ∧ σ 12 47 ≤ 2147483647 := zfL B hb (t := 12) (f := 47) (by decide +kernel)
      show K (some (.inl (σ 12 47))) σ
      rw [ho]
      exact hK _ ⟨xVPz_R h221 (by omega) (fun j j0 j1 => hC j j0 (by omega)) hV, hX4⟩ h2 h15 hh hf
    · refine And.intro (show -2147483648 ≤ (222 + i) ∧ (222 + i) ≤ 2147483647 from by omega) ?_
      refine And.intro (show 0 ≤ i ∧ i < 160 from by omega) ?_
      have f5 : (-2147483648) ≤ σ 54 i ∧ σ 54 i ≤ 2147483647 := zbL B hb (t := 54) (a := 0) (n := 160) (i := i) (by decide +kernel) (by omega) (by omega)
      refine And.intro (show 0 ≤ (222 + i) ∧ (222 + i) < 402 from by omega) ?_
      refine And.intro (show vRg (zrg 52) (222 + i) (σ 54 i) from z_rg2 (by omega) (by omega)) ?_
      refine And.intro (show -2147483648 ≤ (i + 1) ∧ (i + 1) ≤ 2147483647 from by omega) ?_
      show zGL E gJ1 mdT w gm_268 146 [(0, .inr (.inl 12)), (2, .inl (i + 1))] (vup σ 52 (222 + i) (σ 54 i)) K
      refine ih (i + 1) _ (by omega) (by omega) (by omega) hX4 hc (show vup σ 52 (222 + i) (σ 54 i) 52 221 = c from by rw [vup_f, ful_ne (by omega)]; exact h221) (fun j j0 j1 => ?_) hV ho h2 h15 (fun j j0 j1 => (vup_ne 52 j (fun q => absurd (show j = 222 + i from q.2) (by omega))).trans (hh j j0 j1)) hf
      show vup σ 52 (222 + i) (σ 54 i) 52 (222 + j) = σ 54 j
      rw [vup_f]
      by_cases hj : j = i
      · subst hj
        rw [ful_at]
      · rw [ful_ne (by omega)]
        exact hC j j0 (by omega)
theorem uk_268D (X : zX gKX E) (B : zB E) {h f : Int → Int} {u : Int} (hK : ∀ σ2, vX σ2 → σ2 12 2 = 0 → σ2 12 15 = 0 → (∀ i : Int, 0 ≤ i → i < 221 → σ2 52 i = h i) → σ2 55 = f → K (some (.inl (σ 12 47))) σ2) (hI : zIv σ u) (hw : 0 ≤ σ 12 50) (hX : vX σ) (h2 : σ 12 2 = 0) (h15 : σ 12 15 = 0) (hh : ∀ i : Int, 0 ≤ i → i < 221 → σ 52 i = h i) (hf : σ 55 = f) : zGL E gJ1 mdT w gm_268 48 [(0, .inr (.inl 12)), (1, .inl 0)] σ K := by
  have hbd := zIw_b hI hw
  have hV : zVP (σ 54) (σ 12 46).toNat := by
    obtain ⟨_, _, _, _, _, _, _, _, _, _, _, h⟩ := hI
    exact h
  refine zbdL (fun hb => zgoL X B (uSE_ok X B) [] [(48, [0, 1]), (146, [0, 2])] (fun m => Nat.beq m.2.2.2.2.2.2.length 100) (by decide +kernel) ?_)
  refine And.intro (fun _ => ?_) (fun (q : ¬ 0 = 0) => absurd q (by decide))
  have f1 : 0 ≤ σ 12 46 ∧ σ 12 46 ≤ 53 := zfL B hb (t := 12) (f := 46) (by decide +kernel)
  refine And.intro (show 0 ≤ 221 ∧ 221 < 402 from by omega) ?_
  refine And.intro (show vRg (zrg 52) 221 (σ 12 46) from z_rg1 (by omega)) ?_
  show zGL E gJ1 mdT w gm_268 146 [(0, .inr (.inl 12)), (2, .inl 0)] (vup σ 52 221 (σ 12 46)) K
  exact uk_268C X B (c := σ 12 46) hbd.2.1 hK 200 0 _ (by omega) (by omega) (by omega) hX.2 rfl (show vup σ 52 221 (σ 12 46) 52 221 = σ 12 46 from vup_eq) (fun j j0 j1 => by omega) hV rfl h2 h15 (fun j j0 j1 => (vup_ne 52 j (fun q => absurd (show j = 221 from q.2) (by omega))).trans (hh j j0 j1)) hf
set_option maxRecDepth 16384 in
theorem uk_268B (X : zX gKX E) (B : zB E) {x : qX} {σ0 : vS} (hl0 : 0 ≤ x.2.2 ∧ x.2.2 ≤ 940) (hn9 : x.2.1 ≤ 940) : ∀ (n : Nat) (w0 : Bool) (d b : Int) (L : List Int) (o p u : Int) (σ : vS), 941 ≤ (n : Int) + p → rQ x σ0 w0 d b L o p u σ → ((0 ≤ σ0 52 0 ∧ σ0 52 0 ≤ 6) ∧ 0 ≤ σ0 52 1 ∧ σ0 52 1 ≤ 6) → ((qsq x (σ0 55) (σ0 52 0) (σ0 52 1) n w0 d b L o p).1 = 0 → ∀ σ2, vX σ2 → σ2 12 2 = 0 → σ2 12 15 = 0 → (∀ i : Int, 0 ≤ i → i < 221 → σ2 52 i = σ0 52 i) → σ2 55 = σ0 55 → K (some (.inl (qsq x (σ0 55) (σ0 52 0) (σ0 52 1) n w0 d b L o p).2.2)) σ2) → (¬ (qsq x (σ0 55) (σ0 52 0) (σ0 52 1) n w0 d b L o p).1 = 0 → ∀ σ2, rFl x (qsq x (σ0 55) (σ0 52 0) (σ0 52 1) n w0 d b L o p).1 (qsq x (σ0 55) (σ0 52 0) (σ0 52 1) n w0 d b L o p).2.1 σ2 → σ2 55 = σ0 55 → σ2 52 = σ0 52 → K (some (.inl (-1 - qat x.1 x.2.1 x.2.2 (qsq x (σ0 55) (σ0 52 0) (σ0 52 1) n w0 d b L o p).2.1))) σ2) → zGL E gJ1 mdT w gm_268 48 [(0, .inr (.inl 12)), (1, .inl 1)] σ K := by
  obtain ⟨hl0, hl9⟩ := hl0
  intro n
  induction n with
  | zero =>
    intro w0 d b L o p u σ hn hQ
    have := hQ.1.2.2
    omega
  | succ n ih =>
    intro w0 d b L o p u σ hn hQ hm hC hF
    have hT := hQ.1
    have h47 := hQ.2.2.1.2
    have h49 := hQ.2.2.2.1.2.1
    have h9 := hQ.2.2.2.1.2.2
    have hrb := rst_b hQ.2.2.2.1.1
    have hp := hT.2.2
    cases w0 with
    | false =>
      have h50 : σ 12 50 = 0 := hQ.2.2.1.1
      have hbd := zIw_b hQ.2.1 (by omega)
      refine zbdL (fun hb => zgoL X B (uSE_ok X B) [] [(48, [0, 1]), (146, [0, 2])] (fun m => Nat.beq m.2.2.2.2.2.2.length 100) (by decide +kernel) ?_)
      refine And.intro (fun (q : 1 = 0) => absurd q (by decide)) (fun _ => ?_)
      have f1 : 0 ≤ σ 12 50 ∧ σ 12 50 ≤ 1 := zfL B hb (t := 12) (f := 50) (by decide +kernel)
      refine And.intro (fun (c2 : (σ 12 50) = 0) => ?_) (fun (c3 : ¬ (σ 12 50) = 0) => ?_)
      · refine And.intro (fun _ => ?_) (fun (q : ¬ (σ 12 50) = 0) => (by exfalso; omega))
        have hup := qop_up (nm := σ0 55) (mh := σ0 52 0) (mo := σ0 52 1) (d := d) (b := b) (L := L) (o := o) hl0 hT.2.2.1 hT.2.2.2
        refine ⟨x, σ0, d, b, L, o, p, u, hQ, hm, fun g0 σ1 F1 g55 g52 => ?_, fun g0 u1 σ1 Q1 => ?_⟩
        · have fb : 0 ≤ σ1 12 16 ∧ σ1 12 16 ≤ 940 := by rw [F1.2.1]; have := (q_bd (τ := x.1) F1.2.2.2.2.1 F1.2.2.2.2.2 (lim := x.2.2) hl0).1; omega
          refine And.intro (fun (q : ¬ 0 = 0) => absurd q (by decide)) (fun _ => ?_)
          refine And.intro (show -2147483648 ≤ ((-1) - (σ1 12 16)) ∧ ((-1) - (σ1 12 16)) ≤ 2147483647 from by omega) ?_
          rw [qsq_of g0] at hF
          have g : K (some (.inl (-1 - qat x.1 x.2.1 x.2.2 (qop x (σ0 55) (σ0 52 0) (σ0 52 1) d b L o p).2.1))) σ1 := hF g0 σ1 F1 g55 g52
          rw [← F1.2.1] at g
          exact g
        · refine And.intro (fun _ => ?_) (fun (q : 1 = 0) => absurd q (by decide))
          show zGL E gJ1 mdT w gm_268 48 [(0, .inr (.inl 12)), (1, .inl 1)] σ1 K
          rw [qsq_og g0] at hC hF
          have hup := hup g0
          exact ih _ _ _ _ _ _ u1 _ (by omega) Q1 hm hC hF
      · have f4 : 0 ≤ σ 12 11 ∧ σ 12 11 ≤ 4 := zfL B hb (t := 12) (f := 11) (by decide +kernel)
        refine And.intro (fun (c5 : ¬ (σ 12 11) = 0) => ?_) (fun (c6 : (σ 12 11) = 0) => ?_)
        · refine And.intro (fun (c7 : (σ 12 50) = 0) => ?_) (fun (c8 : ¬ (σ 12 50) = 0) => ?_)
          · have hup := qop_up (nm := σ0 55) (mh := σ0 52 0) (mo := σ0 52 1) (d := d) (b := b) (L := L) (o := o) hl0 hT.2.2.1 hT.2.2.2
            refine ⟨x, σ0, d, b, L, o, p, u, hQ, hm, fun g0 σ1 F1 g55 g52 => ?_, fun g0 u1 σ1 Q1 => ?_⟩
            · have fb : 0 ≤ σ1 12 16 ∧ σ1 12 16 ≤ 940 := by rw [F1.2.1]; have := (q_bd (τ := x.1) F1.2.2.2.2.1 F1.2.2.2.2.2 (lim := x.2.2) hl0).1; omega
              refine And.intro (fun (q : ¬ 0 = 0) => absurd q (by decide)) (fun _ => ?_)
              refine And.intro (show -2147483648 ≤ ((-1) - (σ1 12 16)) ∧ ((-1) - (σ1 12 16)) ≤ 2147483647 from by omega) ?_
              rw [qsq_of g0] at hF
              have g : K (some (.inl (-1 - qat x.1 x.2.1 x.2.2 (qop x (σ0 55) (σ0 52 0) (σ0 52 1) d b L o p).2.1))) σ1 := hF g0 σ1 F1 g55 g52
              rw [← F1.2.1] at g
              exact g
            · refine And.intro (fun _ => ?_) (fun (q : 1 = 0) => absurd q (by decide))
              show zGL E gJ1 mdT w gm_268 48 [(0, .inr (.inl 12)), (1, .inl 1)] σ1 K
              rw [qsq_og g0] at hC hF
              have hup := hup g0
              exact ih _ _ _ _ _ _ u1 _ (by omega) Q1 hm hC hF
          · exfalso; omega
        · exfalso; omega
    | true =>
      have h50 : σ 12 50 = 1 := hQ.2.2.1.1
      have hbd := zIw_b hQ.2.1 (by omega)
      refine zbdL (fun hb => zgoL X B (uSE_ok X B) [] [(48, [0, 1]), (146, [0, 2])] (fun m => Nat.beq m.2.2.2.2.2.2.length 100) (by decide +kernel) ?_)
      refine And.intro (fun (q : 1 = 0) => absurd q (by decide)) (fun _ => ?_)
      have f1 : 0 ≤ σ 12 50 ∧ σ 12 50 ≤ 1 := zfL B hb (t := 12) (f := 50) (by decide +kernel)
      refine And.intro (fun (c2 : (σ 12 50) = 0) => ?_) (fun (c3 : ¬ (σ 12 50) = 0) => ?_)
      · refine And.intro (fun _ => ?_) (fun (q : ¬ (σ 12 50) = 0) => (by exfalso; omega))
        exfalso; omega
      · have f4 : 0 ≤ σ 12 11 ∧ σ 12 11 ≤ 4 := zfL B hb (t := 12) (f := 11) (by decide +kernel)
        refine And.intro (fun (c5 : ¬ (σ 12 11) = 0) => ?_) (fun (c6 : (σ 12 11) = 0) => ?_)
        · refine And.intro (fun (c7 : (σ 12 50) = 0) => ?_) (fun (c8 : ¬ (σ 12 50) = 0) => ?_)
          · exfalso; omega
          · have hup := qbh_up (b := b) (L := L) (o := o) hl0 hT.2.2.1 hT.2.2.2
            refine ⟨x, σ0, d, b, L, o, p, u, hQ, hm, (by show ¬ qkd x.1 x.2.1 x.2.2 p = 0; rw [← hT.2.1.1]; omega), fun g0 σ1 F1 g55 g52 => ?_, fun g0 u1 σ1 Q1 => ?_⟩
            · have fb : 0 ≤ σ1 12 16 ∧ σ1 12 16 ≤ 940 := by rw [F1.2.1]; have := (q_bd (τ := x.1) F1.2.2.2.2.1 F1.2.2.2.2.2 (lim := x.2.2) hl0).1; omega
              refine And.intro (fun (q : ¬ 0 = 0) => absurd q (by decide)) (fun _ => ?_)
              refine And.intro (show -2147483648 ≤ ((-1) - (σ1 12 16)) ∧ ((-1) - (σ1 12 16)) ≤ 2147483647 from by omega) ?_
              have hk0 : ¬ qkd x.1 x.2.1 x.2.2 p = 0 := by rw [← hT.2.1.1]; omega
              rw [qsq_bf hk0 g0] at hF
              have g : K (some (.inl (-1 - qat x.1 x.2.1 x.2.2 (qbh x b L o p).2.1))) σ1 := hF g0 σ1 F1 g55 g52
              rw [← F1.2.1] at g
              exact g
            · refine And.intro (fun _ => ?_) (fun (q : 1 = 0) => absurd q (by decide))
              show zGL E gJ1 mdT w gm_268 48 [(0, .inr (.inl 12)), (1, .inl 1)] σ1 K
              have hk0 : ¬ qkd x.1 x.2.1 x.2.2 p = 0 := by rw [← hT.2.1.1]; omega
              rw [qsq_bg hk0 g0] at hC hF
              have hup := hup g0
              exact ih _ _ _ _ _ _ u1 _ (by omega) Q1 hm hC hF
        · refine ⟨u, L, d, b, ⟨hQ.2.1, h50⟩, ⟨hQ.2.2.2.1.1, h49, by omega⟩, fun (u1 : Int) (σ1 : vS) g0 (gI1 : zIv σ1 u1) (gz1 : zfd σ σ1) gS1 gD1 => ?_⟩
          have T1 : rT x p σ1 := rT_zfd hT gz1
          have o1 : σ1 12 50 = 1 := (gz1.2 50 (by decide) (by decide) (by decide)).trans h50
          have hb1 := zIw_b gI1 (by omega)
          refine ⟨u1, L, b, ⟨gI1, o1⟩, ⟨by rw [gz1.1 72 (by decide) (by decide)]; exact gS1, gD1⟩, fun (σ2 : vS) (gI2 : zIv σ2 u1) (gz2 : zfd σ1 σ2) gS2 gD2 gj => ?_⟩
          have T2 : rT x p σ2 := rT_zfd T1 gz2
          have z2 : zfd σ σ2 := zfd_tr gz1 gz2
          have o2 : σ2 12 50 = 1 := (gz2.2 50 (by decide) (by decide) (by decide)).trans o1
          have hb2 := zIw_b gI2 (by omega)
          rw [gz1.1 72 (by decide) (by decide)] at gS2
          have y11 : σ2 12 11 = σ1 12 11 := gz2.2 11 (by decide) (by decide) (by decide)
          have y14 : σ2 12 14 = σ1 12 14 := gz2.2 14 (by decide) (by decide) (by decide)
          have y17 : σ2 12 17 = σ1 12 17 := gz2.2 17 (by decide) (by decide) (by decide)
          refine And.intro (fun (c9 : (σ2 12 48) ≤ 0) => ?_) (fun (c10 : 0 < (σ2 12 48)) => ?_)
          · show zGL E gJ1 mdT w gm_268 48 [(0, .inr (.inl 12)), (1, .inl 0)] σ2 K
            have hk0 : qkd x.1 x.2.1 x.2.2 p = 0 := by rw [← hT.2.1.1]; omega
            have hz : σ2 12 48 ≤ 0 ∨ ¬ (σ 72 (σ2 12 48 - 1) = 21 ∨ σ 72 (σ2 12 48 - 1) = 22) := by
              have := gj rfl
              unfold zj at this
              rw [z2.1 72 (by decide) (by decide)] at this
              exact this
            rcases rst_z gS2 hz with ⟨e1, e2⟩ | ⟨b2, L2, e1, e2, e3, e4, e5⟩
            · subst e1
              have eA : qsq x (σ0 55) (σ0 52 0) (σ0 52 1) (n + 1) true d b [] o p = (0, p, o) := qsq_e hk0
              rw [eA] at hC
              have e47 : σ2 12 47 = o := ((gz2.2 47 (by decide) (by decide) (by decide)).trans (gz1.2 47 (by decide) (by decide) (by decide))).trans h47
              refine uk_268D X B (h := σ0 52) (f := σ0 55) (fun σ4 a1 a2 a3 a4 a5 => ?_) gI2 (by omega) T2.1.1.2.2.2.2 T2.1.1.2.2.2.1 T2.1.2.2 (fun i _ _ => congrFun ((gz2.1 52 (by decide) (by decide)).trans ((gz1.1 52 (by decide) (by decide)).trans hQ.2.2.2.2.2)) i) ((gz2.1 55 (by decide) (by decide)).trans ((gz1.1 55 (by decide) (by decide)).trans hQ.2.2.2.2.1))
              rw [e47]
              exact hC rfl σ4 a1 a2 a3 a4 a5
            · exfalso; omega
          · have fb : 0 ≤ σ2 12 12 ∧ σ2 12 12 ≤ 940 := by rw [T2.2.1.2.1]; have := (q_bd (τ := x.1) T2.2.2.1 T2.2.2.2 (lim := x.2.2) hl0).1; omega
            refine And.intro (by omega) ?_
            refine And.intro (show -2147483648 ≤ ((-1) - (σ2 12 12)) ∧ ((-1) - (σ2 12 12)) ≤ 2147483647 from by omega) ?_
            have hk0 : qkd x.1 x.2.1 x.2.2 p = 0 := by rw [← hT.2.1.1]; omega
            have hz : σ2 12 48 ≤ 0 ∨ ¬ (σ 72 (σ2 12 48 - 1) = 21 ∨ σ 72 (σ2 12 48 - 1) = 22) := by
              have := gj rfl
              unfold zj at this
              rw [z2.1 72 (by decide) (by decide)] at this
              exact this
            rcases rst_z gS2 hz with ⟨e1, e2⟩ | ⟨b2, L2, e1, e2, e3, e4, e5⟩
            · exfalso; omega
            · subst e1
              have eA : qsq x (σ0 55) (σ0 52 0) (σ0 52 1) (n + 1) true d b (b2 :: L2) o p = (1, p, o) := qsq_b hk0
              rw [eA] at hF
              have g : K (some (.inl (-1 - qat x.1 x.2.1 x.2.2 p))) (vup (vup σ2 12 15 1) 12 16 (σ2 12 12)) := hF (by show ¬ ((1 : Int) = 0); decide) _ (rFl_bad T2) ((vup_fr (by decide)).trans ((vup_fr (by decide)).trans ((gz2.1 55 (by decide) (by decide)).trans ((gz1.1 55 (by decide) (by decide)).trans hQ.2.2.2.2.1)))) ((vup_fr (by decide)).trans ((vup_fr (by decide)).trans ((gz2.1 52 (by decide) (by decide)).trans ((gz1.1 52 (by decide) (by decide)).trans hQ.2.2.2.2.2))))
              rw [← T2.2.1.2.1] at g
              exact g
set_option maxRecDepth 16384 in
theorem uk_268 (X : zX gKX E) (B : zB E) : zOKL E gJ1 mdT w 268 us268 := by
  intro q hq vs σ K h
  cases (show gMT 268 = some (gm_268, 3) from rfl).symm.trans hq
  unfold us268 at h
  split at h
  · obtain ⟨hX, hR, h0, h1⟩ := h
    show zGL E gJ1 mdT w gm_268 0 [(0, .inr (.inl 12))] σ K
    refine zbdL (fun hb => zgoL X B (uSE_ok X B) [] [(48, [0, 1]), (146, [0, 2])] (fun m => Nat.beq m.2.2.2.2.2.2.length 100) (by decide +kernel) ?_)
    refine And.intro (show Int.negSucc 2147483647 ≤ 0 ∧ 0 ≤ 2147483647 from rgm (by omega)) ?_
    have f1 : 0 ≤ σ 12 2 ∧ σ 12 2 ≤ 940 := zfL B hb (t := 12) (f := 2) (by decide +kernel)
    refine And.intro (show 0 ≤ (σ 12 2) ∧ (σ 12 2) ≤ 940 from by omega) ?_
    refine And.intro (show 0 ≤ 0 ∧ 0 ≤ 940 from by omega) ?_
    refine And.intro (show 0 ≤ 0 ∧ 0 ≤ 940 from by omega) ?_
    refine And.intro (show 0 ≤ 200 ∧ 200 ≤ 940 from by omega) ?_
    refine And.intro (show Int.negSucc 2147483647 ≤ 0 ∧ 0 ≤ 2147483647 from rgm (by omega)) ?_
    refine And.intro (show 0 ≤ 0 ∧ 0 ≤ 53 from by omega) ?_
    refine And.intro (show Int.negSucc 2147483647 ≤ 0 ∧ 0 ≤ 2147483647 from rgm (by omega)) ?_
    refine And.intro (show 0 ≤ 0 ∧ 0 ≤ 45 from by omega) ?_
    refine And.intro (show Int.negSucc 2147483647 ≤ 1 ∧ 1 ≤ 2147483647 from rgm (by omega)) ?_
    refine And.intro (show 0 ≤ 0 ∧ 0 ≤ 1 from by omega) ?_
    refine And.intro (show 0 ≤ 0 ∧ 0 ≤ 1 from by omega) ?_
    refine fun (σ1 : vS) (f1 : rfr (vup (vup (vup (vup (vup (vup (vup (vup (vup (vup (vup σ 12 0 0) 12 3 (σ 12 2)) 12 2 0) 12 4 0) 12 5 200) 12 15 0) 12 46 0) 12 47 0) 12 48 0) 12 49 1) 12 50 0) σ1) t1 => ?_
    have T1 : rT (rtx σ, σ 12 2, 200) 0 σ1 := rT_adv (p := 0) (x := (rtx σ, σ 12 2, 200)) (σ := (vup (vup (vup (vup (vup (vup (vup (vup (vup (vup (vup σ 12 0 0) 12 3 (σ 12 2)) 12 2 0) 12 4 0) 12 5 200) 12 15 0) 12 46 0) 12 47 0) 12 48 0) 12 49 1) 12 50 0)) ⟨⟨rfl, rfl, rfl, rfl, hX⟩, hR, rfl⟩ rfl ⟨Int.le_refl _, by show 0 ≤ σ 12 2; omega⟩ f1 t1
    have k46 : σ1 12 46 = 0 := f1.2 46 (by decide) (by decide) (by decide) (by decide) (by decide) (by decide)
    have k47 : σ1 12 47 = 0 := f1.2 47 (by decide) (by decide) (by decide) (by decide) (by decide) (by decide)
    have k48 : σ1 12 48 = 0 := f1.2 48 (by decide) (by decide) (by decide) (by decide) (by decide) (by decide)
    have k49 : σ1 12 49 = 1 := f1.2 49 (by decide) (by decide) (by decide) (by decide) (by decide) (by decide)
    have k50 : σ1 12 50 = 0 := f1.2 50 (by decide) (by decide) (by decide) (by decide) (by decide) (by decide)
    have k52 : σ1 52 = σ 52 := f1.1 52 (by decide)
    have k55 : σ1 55 = σ 55 := f1.1 55 (by decide)
    show zGL E gJ1 mdT w gm_268 48 [(0, .inr (.inl 12)), (1, .inl 1)] σ1 K
    refine uk_268B X B (x := (rtx σ, σ 12 2, 200)) (σ0 := σ) ⟨(by decide : (0 : Int) ≤ 200), (by decide : (200 : Int) ≤ 940)⟩ (by show σ 12 2 ≤ 940; omega) 1000 false 1 1 [] 0 0 0 σ1 (by decide) ⟨T1, ?_, ⟨k50, k47⟩, ⟨?_, k49, by decide⟩, k55, k52⟩ ⟨zbL B hb (t := 52) (a := 0) (n := 2) (i := 0) (by decide +kernel) (by decide) (by decide), zbL B hb (t := 52) (a := 0) (n := 2) (i := 1) (by decide +kernel) (by decide) (by decide)⟩ h0 (fun c σ2 F a b => h1 c σ2 F.2.2.2.1 F.2.2.1 F.1 b a)
    · show zIw (σ1 54) (σ1 72) (σ1 12 46) (σ1 12 48) (σ1 12 47) (σ1 12 50) 0
      rw [k46, k47, k48, k50]
      exact zIw_0
    · rw [k48]
      exact rst_0
  · exact absurd h id
end ZV5
