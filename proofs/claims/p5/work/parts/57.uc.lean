/-! THE REFERENCE READS A TERRACE: sign, takes, looksAt, takesName, fresh, in the words of 14.ua, 14.ub. -/
noncomputable section
/-- the text; the token that is looked at -/
def rTB (x : qX) (σ : vS) : Prop := (rtx σ = x.1 ∧ σ 12 3 = x.2.1 ∧ σ 12 5 = x.2.2 ∧ σ 12 2 = 0 ∧ vX σ) ∧ (∀ j : Int, 0 ≤ j → j < 30 → σ 56 j = qrw j) ∧ σ 12 15 = 0
def rT (x : qX) (p : Int) (σ : vS) : Prop := rTB x σ ∧ qTr x.1 x.2.1 x.2.2 p σ ∧ 0 ≤ p ∧ p ≤ x.2.1
/-- a FAULT of kind k at the token -/
def rFl (x : qX) (k p : Int) (σ : vS) : Prop := σ 12 15 = k ∧ σ 12 16 = qat x.1 x.2.1 x.2.2 p ∧ σ 12 2 = 0 ∧ vX σ ∧ 0 ≤ p ∧ p ≤ x.2.1
/-- but the reader's own cells -/
def rg (σ σ2 : vS) : Prop := (∀ t, ¬ t = 12 → σ2 t = σ t) ∧ ∀ i : Int, ¬ i = 4 → ¬ (11 ≤ i ∧ i ≤ 18) → σ2 12 i = σ 12 i
/-- .. and the TERRACE that stands -/
def rgl (σ σ2 : vS) : Prop := (∀ i : Int, ¬ i = 4 → ¬ (11 ≤ i ∧ i ≤ 18) → σ2 12 i = σ 12 i) ∧ σ2 52 = σ 52 ∧ ∀ i : Int, 0 ≤ i → i < 24 → σ2 55 i = σ 55 i
def qnmp (x : qX) (p : Int) : Bool := decide (qkd x.1 x.2.1 x.2.2 p = 1) && qnm (qwd x.1 x.2.1 p)
def qsn (x : qX) (p c : Int) : Bool := decide (qkd x.1 x.2.1 x.2.2 p = 3) && decide (qvl x.1 x.2.1 p = c)
def rTb (S : qS) (σ : vS) : Prop := (∀ i : Int, ((0 ≤ i ∧ i < 5) ∨ (29 ≤ i ∧ i < 69) ∨ (89 ≤ i ∧ i < 179)) → σ 53 i = S.2.1 i) ∧ ∀ i : Int, 0 ≤ i → i < 24 → σ 55 (24 + i) = S.2.2 i
def us270 : vSpL := fun vs σ K => match vs with
  | [.inr (.inl 12), .inl c] => ∃ x p, rT x p σ ∧ (qsn x p c = false → ∀ σ2, rFl x 1 p σ2 → rg σ σ2 → K (some (.inl 0)) σ2) ∧ (qsn x p c = true → ∀ σ2, rT x (qnx x.1 x.2.1 p) σ2 → rg σ σ2 → K (some (.inl 1)) σ2)
  | _ => False
def us276 : vSpL := fun vs σ K => match vs with
  | [.inr (.inl 12), .inl lo, .inl hi] => (-1 ≤ lo ∧ hi ≤ 60) ∧ ∃ x p, rT x p σ ∧ (¬ qkd x.1 x.2.1 x.2.2 p = 2 → ∀ σ2, rFl x 1 p σ2 → rg σ σ2 → K (some (.inl 0)) σ2) ∧ (qkd x.1 x.2.1 x.2.2 p = 2 → ¬ (lo ≤ qvl x.1 x.2.1 p ∧ qvl x.1 x.2.1 p ≤ hi) → ∀ σ2, rFl x 2 p σ2 → rg σ σ2 → K (some (.inl 0)) σ2) ∧ (qkd x.1 x.2.1 x.2.2 p = 2 → (lo ≤ qvl x.1 x.2.1 p ∧ qvl x.1 x.2.1 p ≤ hi) → ∀ σ2, rT x (qnx x.1 x.2.1 p) σ2 → rg σ σ2 → σ2 12 18 = qvl x.1 x.2.1 p → K (some (.inl 1)) σ2)
  | _ => False
def us239 : vSpL := fun vs σ K => match vs with
  | [.inr (.inl 12), .inl a, .inl m] => ((0 ≤ a ∧ 0 ≤ m) ∧ a + m ≤ 48) ∧ ∃ x p, rT x p σ ∧ (qlf x (σ 55) a m p < 0 → ∀ σ2, rFl x (-(qlf x (σ 55) a m p)) p σ2 → rg σ σ2 → K (some (.inl 0)) σ2) ∧ (0 ≤ qlf x (σ 55) a m p → ∀ σ2, rT x p σ2 → rg σ σ2 → σ2 12 4 = σ 12 4 → σ2 12 18 = qlf x (σ 55) a m p → K (some (.inl 1)) σ2)
  | _ => False
def us277 : vSpL := fun vs σ K => match vs with
  | [.inr (.inl 12), .inl a, .inl m] => ((0 ≤ a ∧ 0 ≤ m) ∧ a + m ≤ 48) ∧ ∃ x p, rT x p σ ∧ (qlf x (σ 55) a m p < 0 → ∀ σ2, rFl x (-(qlf x (σ 55) a m p)) p σ2 → rg σ σ2 → K (some (.inl 0)) σ2) ∧ (0 ≤ qlf x (σ 55) a m p → ∀ σ2, rT x (qnx x.1 x.2.1 p) σ2 → rg σ σ2 → σ2 12 18 = qlf x (σ 55) a m p → K (some (.inl 1)) σ2)
  | _ => False
def us210 : vSpL := fun vs σ K => match vs with
  | [.inr (.inl 12), .inl to] => (24 ≤ to ∧ to < 48) ∧ ∃ x S, rT x S.1 σ ∧ rTb S σ ∧ qSb x S ∧ (¬ (qfr x (to - 24) S).1 = 0 → ∀ σ2, rFl x (qfr x (to - 24) S).1 (qfr x (to - 24) S).2.1 σ2 → rg σ σ2 → K (some (.inl 0)) σ2) ∧ ((qfr x (to - 24) S).1 = 0 → ∀ σ2, rT x (qfr x (to - 24) S).2.1 σ2 → rTb (qfr x (to - 24) S).2 σ2 → rgl σ σ2 → K (some (.inl 1)) σ2)
  | _ => False
end
theorem rg_refl {σ : vS} : rg σ σ := ⟨fun _ _ => rfl, fun _ _ _ => rfl⟩
theorem rg_tr {σ0 σ1 σ2 : vS} (h : rg σ0 σ1) (h2 : rg σ1 σ2) : rg σ0 σ2 := ⟨fun t ht => (h2.1 t ht).trans (h.1 t ht), fun i a b => (h2.2 i a b).trans (h.2 i a b)⟩
theorem rg_up {σ0 σ : vS} {i v : Int} (h : rg σ0 σ) (hi : i = 4 ∨ (11 ≤ i ∧ i ≤ 18)) : rg σ0 (vup σ 12 i v) := ⟨fun t ht => by rw [vup_fr ht]; exact h.1 t ht, fun j a b => by rw [vup_ne 12 j (fun q => by have := q.2; omega)]; exact h.2 j a b⟩
theorem rg_of {σ0 σ : vS} (h : rfr σ0 σ) : rg σ0 σ := ⟨h.1, fun i a b => h.2 i a (fun q => by omega) (fun q => by omega) (fun q => by omega) (fun q => by omega) (fun q => by omega)⟩
theorem rg_l {σ σ2 : vS} (h : rg σ σ2) : rgl σ σ2 := ⟨h.2, h.1 52 (by decide), fun i _ _ => by rw [h.1 55 (by decide)]⟩
theorem rgl_refl {σ : vS} : rgl σ σ := rg_l rg_refl
theorem rgl_tr {σ0 σ1 σ2 : vS} (h : rgl σ0 σ1) (h2 : rgl σ1 σ2) : rgl σ0 σ2 := ⟨fun i a b => (h2.1 i a b).trans (h.1 i a b), h2.2.1.trans h.2.1, fun i a b => (h2.2.2 i a b).trans (h.2.2 i a b)⟩
theorem rgl_t {σ0 σ : vS} {t : Nat} {i v : Int} (h : rgl σ0 σ) (ht : ¬ t = 12 ∧ ¬ t = 52 ∧ ¬ t = 55) : rgl σ0 (vup σ t i v) := ⟨fun j a b => by rw [vup_fr (fun q => ht.1 q.symm)]; exact h.1 j a b, by rw [vup_fr (fun q => ht.2.1 q.symm)]; exact h.2.1, fun j a b => by rw [vup_fr (fun q => ht.2.2 q.symm)]; exact h.2.2 j a b⟩
theorem rTB_rg {x : qX} {σ σ2 : vS} (h : rTB x σ) (g : rg σ σ2) (e15 : σ2 12 15 = σ 12 15) : rTB x σ2 := by
  obtain ⟨⟨h1, h2, h3, h4, h5⟩, h6, h7⟩ := h
  obtain ⟨g1, g2⟩ := g
  refine ⟨⟨?_, (g2 3 (by omega) (by omega)).trans h2, (g2 5 (by omega) (by omega)).trans h3, (g2 2 (by omega) (by omega)).trans h4, vX_fr h5 (g1 52 (by decide)) (g1 74 (by decide))⟩, fun j a b => ?_, e15.trans h7⟩
  · rw [← h1]
    unfold rtx
    rw [g1 51 (by decide)]
  · rw [g1 56 (by decide)]
    exact h6 j a b
theorem rTB_t {x : qX} {σ : vS} {t : Nat} {i v : Int} (h : rTB x σ) (ht : ¬ t = 12 ∧ ¬ t = 51 ∧ ¬ t = 52 ∧ ¬ t = 56 ∧ ¬ t = 74) : rTB x (vup σ t i v) := by
  obtain ⟨⟨h1, h2, h3, h4, h5⟩, h6, h7⟩ := h
  obtain ⟨g1, g2, g3, g4, g5⟩ := ht
  have e : ∀ s, ¬ s = t → vup σ t i v s = σ s := fun s hs => vup_fr hs
  refine ⟨⟨?_, by rw [e 12 (fun q => g1 q.symm)]; exact h2, by rw [e 12 (fun q => g1 q.symm)]; exact h3, by rw [e 12 (fun q => g1 q.symm)]; exact h4, vX_fr h5 (e 52 (fun q => g3 q.symm)) (e 74 (fun q => g5 q.symm))⟩, fun j a b => ?_, by rw [e 12 (fun q => g1 q.symm)]; exact h7⟩
  · rw [← h1]
    unfold rtx
    rw [e 51 (fun q => g2 q.symm)]
  · rw [e 56 (fun q => g4 q.symm)]
    exact h6 j a b
theorem qTr_eq {τ : Int → Int} {n lim p : Int} {σ σ2 : vS} (h : qTr τ n lim p σ) (e : ∀ i : Int, (i = 4 ∨ i = 11 ∨ i = 12 ∨ i = 14 ∨ i = 17) → σ2 12 i = σ 12 i) : qTr τ n lim p σ2 := by
  unfold qTr at h ⊢
  rw [e 11 (by omega), e 12 (by omega), e 4 (by omega), e 14 (by omega), e 17 (by omega)]
  exact h
theorem rT_t {x : qX} {p : Int} {σ : vS} {t : Nat} {i v : Int} (h : rT x p σ) (ht : ¬ t = 12 ∧ ¬ t = 51 ∧ ¬ t = 52 ∧ ¬ t = 56 ∧ ¬ t = 74) : rT x p (vup σ t i v) := ⟨rTB_t h.1 ht, qTr_eq h.2.1 (fun _ _ => by rw [vup_fr (fun q => ht.1 q.symm)]), h.2.2⟩
theorem rT_i {x : qX} {p : Int} {σ : vS} {i v : Int} (h : rT x p σ) (hi : i = 13 ∨ i = 16 ∨ i = 18) : rT x p (vup σ 12 i v) := ⟨rTB_rg h.1 (rg_up rg_refl (by omega)) (vup_ne 12 15 (fun q => by have := q.2; omega)), qTr_eq h.2.1 (fun j hj => vup_ne 12 j (fun q => by have := q.2; omega)), h.2.2⟩
theorem rT_adv {x : qX} {p : Int} {σ σ2 : vS} (h : rTB x σ) (h4 : σ 12 4 = p) (hp : 0 ≤ p ∧ p ≤ x.2.1) (hf : rfr σ σ2) (ht : rtk (rtx σ) (σ 12 3) (σ 12 5) (tE (fun q => tbk (rtx σ q)) (σ 12 3) (σ 12 4)) σ2) : rT x p σ2 := by
  refine ⟨rTB_rg h (rg_of hf) (hf.2 15 (by omega) (by omega) (by omega) (by omega) (by omega) (by omega)), ?_, hp⟩
  rw [h.1.1, h.1.2.1, h.1.2.2.1, h4] at ht
  exact q_rtk ht
theorem rT_next {x : qX} {p : Int} {σ σ2 : vS} (h : rT x p σ) (hk : ¬ qkd x.1 x.2.1 x.2.2 p = 4) (hl : 0 ≤ x.2.2) (hf : rfr σ σ2) (ht : rtk (rtx σ) (σ 12 3) (σ 12 5) (tE (fun q => tbk (rtx σ q)) (σ 12 3) (σ 12 4)) σ2) : rT x (qnx x.1 x.2.1 p) σ2 := rT_adv h.1 (h.2.1.2.2.1 hk) (q_bd h.2.2.1 h.2.2.2 hl).2.2 hf ht
theorem rFl_bad {x : qX} {p k : Int} {σ : vS} (h : rT x p σ) : rFl x k p (vup (vup σ 12 15 k) 12 16 (σ 12 12)) := by
  refine ⟨?_, ?_, ?_, ?_, h.2.2⟩
  · rw [vup_ne 12 15 (fun q => by have := q.2; omega), vup_eq]
  · rw [vup_eq]; exact h.2.1.2.1
  · rw [vup_ne 12 2 (fun q => by have := q.2; omega), vup_ne 12 2 (fun q => by have := q.2; omega)]; exact h.1.1.2.2.2.1
  · exact vX_fr h.1.1.2.2.2.2 (by rw [vup_fr (by decide), vup_fr (by decide)]) (by rw [vup_fr (by decide), vup_fr (by decide)])
theorem rg_bad {k v : Int} {σ : vS} : rg σ (vup (vup σ 12 15 k) 12 16 v) := rg_up (rg_up rg_refl (by omega)) (by omega)
theorem rnm_q {x : qX} {p : Int} {σ : vS} (h : rT x p σ) : rnm σ ↔ qnmp x p = true := by
  obtain ⟨⟨-, h6, -⟩, ⟨t1, -, -, -, t5⟩, -⟩ := h
  unfold rnm qnmp
  rw [Bool.and_eq_true, decide_eq_true_iff, t1]
  constructor
  · rintro ⟨a, b⟩
    refine ⟨a, qnm_iff.mpr (fun j j0 j1 => ?_)⟩
    rw [← t5 a, ← h6 j j0 j1]
    exact b j j0 j1
  · rintro ⟨a, b⟩
    refine ⟨a, fun j j0 j1 => ?_⟩
    rw [t5 a, h6 j j0 j1]
    exact qnm_iff.mp b j j0 j1
theorem qfd_sh {f g : Int → Int} {a b m x : Int} (hm : 0 ≤ m) (h : ∀ i : Int, 0 ≤ i → i < m → f (a + i) = g (b + i)) : qfd f a m x = qfd g b m x := by
  refine qfd_of hm ?_
  rcases qfd_rfd (f := f) (a := a) (x := x) hm with ⟨h1, h2⟩ | ⟨h1, h2, h3⟩
  · exact Or.inl ⟨h1, fun j j0 j1 => by rw [← h j j0 j1]; exact h2 j j0 j1⟩
  · exact Or.inr ⟨h1, by rw [← h _ h1.1 h1.2]; exact h2, fun j j0 j1 => by rw [← h j j0 (by omega)]; exact h3 j j0 j1⟩
theorem rfd_b {f : Int → Int} {a m x r : Int} (h : rfd f a m x r) (hm : 0 ≤ m) : -1 ≤ r ∧ (r < m ∨ r = -1) := by rcases h with ⟨h1, -⟩ | ⟨h1, -⟩ <;> omega
theorem qlf_eq {x : qX} {f : Int → Int} {a m p : Int} : qlf x f a m p = if qnmp x p = true then (if 0 ≤ qfd f a m (qwd x.1 x.2.1 p) then qfd f a m (qwd x.1 x.2.1 p) else -3) else -1 := rfl
theorem qlf_pos {x : qX} {f : Int → Int} {a m p : Int} (h : 0 ≤ qlf x f a m p) : qnmp x p = true ∧ qlf x f a m p = qfd f a m (qwd x.1 x.2.1 p) ∧ 0 ≤ qfd f a m (qwd x.1 x.2.1 p) := by
  unfold qlf at h ⊢
  split at h
  · rename_i h1
    split at h
    · rename_i h2
      rw [if_pos h1, if_pos h2]
      exact ⟨h1, rfl, h2⟩
    · omega
  · omega
theorem qnmp_k {x : qX} {p : Int} (h : qnmp x p = true) : qkd x.1 x.2.1 x.2.2 p = 1 := by
  unfold qnmp at h
  rw [Bool.and_eq_true, decide_eq_true_iff] at h
  exact h.1
section ZU1
variable {E : zE} {w : va_W} {σ : vS} {K : vKL}
noncomputable section
def uRL : List (Nat × vSpL) := [(223, rs223), (178, rs178), (207, rs207), (271, rs271), (228, rs228), (230, rs230)]
end
theorem uRL_ok (X : zX gKX E) (B : zB E) : zSL E gJ1 mdT w uRL := zS_consL (rk_223 X B) (zS_consL (rk_178 X B) (zS_consL (rk_207 X B) (zS_consL (rk_271 X B) (zS_consL (rk_228 X B) (zS_consL (rk_230 X B) zS_nilL)))))
theorem lim_ok (B : zB E) (hb : vBdL (zso E) gST zuq σ) {x : qX} (h : rTB x σ) : 0 ≤ x.2.2 ∧ x.2.2 ≤ 940 := by
  have f : 0 ≤ σ 12 5 ∧ σ 12 5 ≤ 940 := zfL B hb (t := 12) (f := 5) (by decide +kernel)
  rw [h.1.2.2.1] at f
  exact f
theorem uk_270 (X : zX gKX E) (B : zB E) : zOKL E gJ1 mdT w 270 us270 := by
  intro q hq vs σ K h
  cases (show gMT 270 = some (gm_270, 2) from rfl).symm.trans hq
  unfold us270 at h
  split at h
  · rename_i c
    show zGL E gJ1 mdT w gm_270 0 [(0, .inr (.inl 12)), (1, .inl c)] σ K
    obtain ⟨x, p, hT, h1, h2⟩ := h
    refine zbdL (fun hb => zgoL X B (uRL_ok X B) [] [] (fun m => false) (by decide +kernel) ?_)
    refine fun z (t1 : (z = 1 ∧ σ 12 11 = 3 ∧ σ 12 14 = c) ∨ (z = 0 ∧ ¬ (σ 12 11 = 3 ∧ σ 12 14 = c))) => ?_
    rcases t1 with ⟨rfl, t1⟩ | ⟨rfl, t1⟩
    · refine And.intro (fun _ => ?_) (fun (q : 1 = 0) => absurd q (by decide))
      refine fun (σ1 : vS) (fσ1 : rfr σ σ1) (tσ1 : rtk (rtx σ) (σ 12 3) (σ 12 5) (tE (fun q => tbk (rtx σ q)) (σ 12 3) (σ 12 4)) σ1) => ?_
      refine And.intro (show 0 ≤ 1 ∧ 1 ≤ 1 from by omega) ?_
      exact h2 (by unfold qsn; rw [Bool.and_eq_true, decide_eq_true_iff, decide_eq_true_iff]; exact ⟨hT.2.1.1.symm.trans t1.1, (hT.2.1.2.2.2.1 (Or.inr (hT.2.1.1.symm.trans t1.1))).symm.trans t1.2⟩) _ (rT_next hT (by have := hT.2.1.1; omega) (lim_ok B hb hT.1).1 fσ1 tσ1) (rg_of fσ1)
    · refine And.intro (fun (q : ¬ 0 = 0) => absurd q (by decide)) (fun _ => ?_)
      refine And.intro (by omega) ?_
      refine And.intro (show 0 ≤ 0 ∧ 0 ≤ 1 from by omega) ?_
      exact h1 (by unfold qsn; rw [Bool.and_eq_false_iff, decide_eq_false_iff_not, decide_eq_false_iff_not]; exact (Decidable.em (qkd x.1 x.2.1 x.2.2 p = 3)).elim (fun q => Or.inr (fun q2 => t1 ⟨hT.2.1.1.trans q, (hT.2.1.2.2.2.1 (Or.inr q)).trans q2⟩)) Or.inl) _ (rFl_bad hT) rg_bad
  · exact absurd h id
theorem uk_276 (X : zX gKX E) (B : zB E) : zOKL E gJ1 mdT w 276 us276 := by
  intro q hq vs σ K h
  cases (show gMT 276 = some (gm_276, 3) from rfl).symm.trans hq
  unfold us276 at h
  split at h
  · rename_i lo hi
    show zGL E gJ1 mdT w gm_276 0 [(0, .inr (.inl 12)), (1, .inl lo), (2, .inl hi)] σ K
    obtain ⟨hh, x, p, hT, h1, h2, h3⟩ := h
    refine zbdL (fun hb => zgoL X B (uRL_ok X B) [] [] (fun m => false) (by decide +kernel) ?_)
    have f1 : 0 ≤ σ 12 11 ∧ σ 12 11 ≤ 4 := zfL B hb (t := 12) (f := 11) (by decide +kernel)
    refine And.intro (fun (c2 : (σ 12 11) = 2) => ?_) (fun (c3 : ¬ (σ 12 11) = 2) => ?_)
    · have f4 : (-2147483648) ≤ σ 12 14 ∧ σ 12 14 ≤ 2147483647 := zfL B hb (t := 12) (f := 14) (by decide +kernel)
      refine And.intro (fun (c5 : (σ 12 14) < lo) => ?_) (fun (c6 : lo ≤ (σ 12 14)) => ?_)
      · refine And.intro (show 0 ≤ 0 ∧ 0 ≤ 1 from by omega) ?_
        refine And.intro (fun (q : ¬ 0 = 0) => absurd q (by decide)) (fun _ => ?_)
        refine And.intro (by omega) ?_
        refine And.intro (show 0 ≤ 0 ∧ 0 ≤ 1 from by omega) ?_
        have k2 : qkd x.1 x.2.1 x.2.2 p = 2 := by rw [← hT.2.1.1]; omega
        have e14 := hT.2.1.2.2.2.1 (Or.inl k2)
        exact h2 k2 (by omega) _ (rFl_bad hT) rg_bad
      · refine And.intro (fun (c7 : hi < (σ 12 14)) => ?_) (fun (c8 : (σ 12 14) ≤ hi) => ?_)
        · refine And.intro (show 0 ≤ 0 ∧ 0 ≤ 1 from by omega) ?_
          refine And.intro (fun (q : ¬ 0 = 0) => absurd q (by decide)) (fun _ => ?_)
          refine And.intro (by omega) ?_
          refine And.intro (show 0 ≤ 0 ∧ 0 ≤ 1 from by omega) ?_
          have k2 : qkd x.1 x.2.1 x.2.2 p = 2 := by rw [← hT.2.1.1]; omega
          have e14 := hT.2.1.2.2.2.1 (Or.inl k2)
          exact h2 k2 (by omega) _ (rFl_bad hT) rg_bad
        · refine And.intro (show 0 ≤ 1 ∧ 1 ≤ 1 from by omega) ?_
          refine And.intro (fun _ => ?_) (fun (q : 1 = 0) => absurd q (by decide))
          refine And.intro (show Int.negSucc 0 ≤ (σ 12 14) ∧ (σ 12 14) ≤ 60 from rgm (by omega)) ?_
          refine fun (σ1 : vS) (fσ1 : rfr (vup σ 12 18 (σ 12 14)) σ1) (tσ1 : rtk (rtx (vup σ 12 18 (σ 12 14))) ((vup σ 12 18 (σ 12 14)) 12 3) ((vup σ 12 18 (σ 12 14)) 12 5) (tE (fun q => tbk (rtx (vup σ 12 18 (σ 12 14)) q)) ((vup σ 12 18 (σ 12 14)) 12 3) ((vup σ 12 18 (σ 12 14)) 12 4)) σ1) => ?_
          refine And.intro (show 0 ≤ 1 ∧ 1 ≤ 1 from by omega) ?_
          have k2 : qkd x.1 x.2.1 x.2.2 p = 2 := by rw [← hT.2.1.1]; omega
          have e14 := hT.2.1.2.2.2.1 (Or.inl k2)
          refine h3 k2 ⟨by omega, by omega⟩ _ (rT_next (rT_i hT (by omega)) (by omega) (lim_ok B hb hT.1).1 fσ1 tσ1) (rg_tr (rg_up rg_refl (by omega)) (rg_of fσ1)) ?_
          rw [fσ1.2 18 (by omega) (by omega) (by omega) (by omega) (by omega) (by omega), vup_eq]
          exact e14
    · refine And.intro (by omega) ?_
      refine And.intro (show 0 ≤ 0 ∧ 0 ≤ 1 from by omega) ?_
      exact h1 (by rw [← hT.2.1.1]; omega) _ (rFl_bad hT) rg_bad
  · exact absurd h id
theorem uk_239 (X : zX gKX E) (B : zB E) : zOKL E gJ1 mdT w 239 us239 := by
  intro q hq vs σ K h
  cases (show gMT 239 = some (gm_239, 3) from rfl).symm.trans hq
  unfold us239 at h
  split at h
  · rename_i a m
    show zGL E gJ1 mdT w gm_239 0 [(0, .inr (.inl 12)), (1, .inl a), (2, .inl m)] σ K
    obtain ⟨hh, x, p, hT, h1, h2⟩ := h
    refine zbdL (fun hb => zgoL X B (uRL_ok X B) [] [] (fun m => false) (by decide +kernel) ?_)
    refine fun z (t1 : (z = 1 ∧ rnm σ) ∨ (z = 0 ∧ ¬ rnm σ)) => ?_
    rcases t1 with ⟨rfl, t1⟩ | ⟨rfl, t1⟩
    · refine And.intro (fun _ => ?_) (fun (q : 1 = 0) => absurd q (by decide))
      refine And.intro (by omega) (fun r2 (t3 : rfd (σ 55) a m (σ 12 17) r2) => ?_)
      have br2 : -1 ≤ r2 ∧ (r2 < m ∨ r2 = -1) := rfd_b t3 (by omega)
      refine And.intro (show Int.negSucc 0 ≤ r2 ∧ r2 ≤ 60 from rgm (by omega)) ?_
      refine And.intro (fun (c4 : 0 ≤ r2) => ?_) (fun (c5 : r2 < 0) => ?_)
      · refine And.intro (show 0 ≤ 1 ∧ 1 ≤ 1 from by omega) ?_
        have eq : qnmp x p = true := (rnm_q hT).mp t1
        have er : r2 = qfd (σ 55) a m (qwd x.1 x.2.1 p) := by
          have e := t3
          rw [hT.2.1.2.2.2.2 (qnmp_k eq)] at e
          exact qfd_of (by omega) e
        have el : qlf x (σ 55) a m p = r2 := by
          rw [qlf_eq, if_pos eq, ← er, if_pos (by omega)]
        exact h2 (by omega) _ (rT_i (i := 18) hT (by omega)) (rg_up (i := 18) rg_refl (by omega)) (vup_ne (i := 18) 12 4 (fun q => by have := q.2; omega)) ((vup_eq (i := 18)).trans el.symm)
      · refine And.intro (by omega) ?_
        refine And.intro (fun _ => ?_) (fun (q : ¬ 0 = 0) => absurd q (by decide))
        refine And.intro (show 0 ≤ 0 ∧ 0 ≤ 1 from by omega) ?_
        have eq : qnmp x p = true := (rnm_q hT).mp t1
        have er : r2 = qfd (σ 55) a m (qwd x.1 x.2.1 p) := by
          have e := t3
          rw [hT.2.1.2.2.2.2 (qnmp_k eq)] at e
          exact qfd_of (by omega) e
        have el : qlf x (σ 55) a m p = -3 := by
          rw [qlf_eq, if_pos eq, ← er, if_neg (by omega)]
        rw [el] at h1
        exact h1 (by omega) _ (rFl_bad (rT_i (i := 18) hT (by omega))) (rg_tr (rg_up (i := 18) rg_refl (by omega)) rg_bad)
    · refine And.intro (fun (q : ¬ 0 = 0) => absurd q (by decide)) (fun _ => ?_)
      refine And.intro (by omega) ?_
      refine And.intro (show 0 ≤ 0 ∧ 0 ≤ 1 from by omega) ?_
      have el : qlf x (σ 55) a m p = -1 := by
        rw [qlf_eq]
        exact if_neg (fun q => t1 ((rnm_q hT).mpr q))
      rw [el] at h1
      exact h1 (by omega) _ (rFl_bad hT) rg_bad
  · exact absurd h id
theorem uk_277 (X : zX gKX E) (B : zB E) : zOKL E gJ1 mdT w 277 us277 := by
  intro q hq vs σ K h
  cases (show gMT 277 = some (gm_277, 3) from rfl).symm.trans hq
  unfold us277 at h
  split at h
  · rename_i a m
    show zGL E gJ1 mdT w gm_277 0 [(0, .inr (.inl 12)), (1, .inl a), (2, .inl m)] σ K
    obtain ⟨hh, x, p, hT, h1, h2⟩ := h
    refine zbdL (fun hb => zgoL X B (zS_consL (uk_239 X B) (uRL_ok X B)) [] [] (fun m => false) (by decide +kernel) ?_)
    refine ⟨hh, x, p, hT, fun l0 σ1 l1 l2 => ?_, fun l0 σ1 l1 l2 l3 l4 => ?_⟩
    · refine And.intro (fun (q : ¬ 0 = 0) => absurd q (by decide)) (fun _ => ?_)
      refine And.intro (show 0 ≤ 0 ∧ 0 ≤ 1 from by omega) ?_
      exact h1 l0 _ l1 l2
    · refine And.intro (fun _ => ?_) (fun (q : 1 = 0) => absurd q (by decide))
      refine fun (σ2 : vS) (fσ2 : rfr σ1 σ2) (tσ2 : rtk (rtx σ1) (σ1 12 3) (σ1 12 5) (tE (fun q => tbk (rtx σ1 q)) (σ1 12 3) (σ1 12 4)) σ2) => ?_
      refine And.intro (show 0 ≤ 1 ∧ 1 ≤ 1 from by omega) ?_
      refine h2 l0 _ (rT_next l1 (by have := qnmp_k (qlf_pos l0).1; omega) (lim_ok B hb hT.1).1 fσ2 tσ2) (rg_tr l2 (rg_of fσ2)) ?_
      rw [fσ2.2 18 (by omega) (by omega) (by omega) (by omega) (by omega) (by omega)]
      exact l4
  · exact absurd h id
theorem uk_210 (X : zX gKX E) (B : zB E) : zOKL E gJ1 mdT w 210 us210 := by
  intro q hq vs σ K h
  cases (show gMT 210 = some (gm_210, 2) from rfl).symm.trans hq
  unfold us210 at h
  split at h
  · rename_i to
    show zGL E gJ1 mdT w gm_210 0 [(0, .inr (.inl 12)), (1, .inl to)] σ K
    obtain ⟨hh, x, S, hT, hTb, hS, h1, h2⟩ := h
    have b0 : σ 53 0 = S.2.1 0 := hTb.1 0 (by omega)
    have b1 : σ 53 1 = S.2.1 1 := hTb.1 1 (by omega)
    have b2 : σ 53 2 = S.2.1 2 := hTb.1 2 (by omega)
    refine zbdL (fun hb => zgoL X B (uRL_ok X B) [] [] (fun m => false) (by decide +kernel) ?_)
    refine fun z (t1 : (z = 1 ∧ rnm σ) ∨ (z = 0 ∧ ¬ rnm σ)) => ?_
    rcases t1 with ⟨rfl, t1⟩ | ⟨rfl, t1⟩
    · have eqn : qnmp x S.1 = true := (rnm_q hT).mp t1
      refine And.intro (fun _ => ?_) (fun (q : 1 = 0) => absurd q (by decide))
      refine And.intro (show 0 ≤ 0 ∧ 0 < 179 from by omega) ?_
      have f2 : 0 ≤ σ 53 0 ∧ σ 53 0 ≤ 6 := zbL B hb (t := 53) (a := 0) (n := 2) (i := 0) (by decide +kernel) (by omega) (by omega)
      refine And.intro (by have := hS.2.1; have := hS.2.2.1; have := hS.2.2.2.1; omega) (fun r3 (t4 : rfd (σ 55) 24 (σ 53 0) (σ 12 17) r3) => ?_)
      have et4 : r3 = qfd S.2.2 0 (S.2.1 0) (qwd x.1 x.2.1 S.1) := by
        rw [b0, hT.2.1.2.2.2.2 (qnmp_k eqn)] at t4
        exact (qfd_of (by have := hS.2.1; have := hS.2.2.1; have := hS.2.2.2.1; omega) t4).trans (qfd_sh (by have := hS.2.1; have := hS.2.2.1; have := hS.2.2.2.1; omega) (fun i i0 i1 => by have := hS.2.1; have := hS.2.2.1; have := hS.2.2.2.1; rw [show (24 : Int) + i = 24 + (0 + i) by omega]; exact hTb.2 (0 + i) (by omega) (by omega)))
      refine And.intro (fun (c5 : 0 ≤ r3) => ?_) (fun (c6 : r3 < 0) => ?_)
      · refine And.intro (by omega) ?_
        refine And.intro (show 0 ≤ 0 ∧ 0 ≤ 1 from by omega) ?_
        have et : qTold x S = true := by
          unfold qTold
          simp only [Bool.or_eq_true, decide_eq_true_iff]
          omega
        have er : qfr x (to - 24) S = (3, S) := by
          unfold qfr
          exact (if_pos eqn).trans (if_pos et)
        rw [er] at h1
        exact h1 (by show ¬ (3 : Int) = 0; decide) _ (rFl_bad hT) rg_bad
      · refine And.intro (show 0 ≤ 1 ∧ 1 < 179 from by omega) ?_
        have f7 : 0 ≤ σ 53 1 ∧ σ 53 1 ≤ 6 := zbL B hb (t := 53) (a := 0) (n := 2) (i := 1) (by decide +kernel) (by omega) (by omega)
        refine And.intro (by have := hS.2.1; have := hS.2.2.1; have := hS.2.2.2.1; omega) (fun r8 (t9 : rfd (σ 55) 30 (σ 53 1) (σ 12 17) r8) => ?_)
        have et9 : r8 = qfd S.2.2 6 (S.2.1 1) (qwd x.1 x.2.1 S.1) := by
          rw [b1, hT.2.1.2.2.2.2 (qnmp_k eqn)] at t9
          exact (qfd_of (by have := hS.2.1; have := hS.2.2.1; have := hS.2.2.2.1; omega) t9).trans (qfd_sh (by have := hS.2.1; have := hS.2.2.1; have := hS.2.2.2.1; omega) (fun i i0 i1 => by have := hS.2.1; have := hS.2.2.1; have := hS.2.2.2.1; rw [show (30 : Int) + i = 24 + (6 + i) by omega]; exact hTb.2 (6 + i) (by omega) (by omega)))
        refine And.intro (fun (c10 : 0 ≤ r8) => ?_) (fun (c11 : r8 < 0) => ?_)
        · refine And.intro (by omega) ?_
          refine And.intro (show 0 ≤ 0 ∧ 0 ≤ 1 from by omega) ?_
          have et : qTold x S = true := by
            unfold qTold
            simp only [Bool.or_eq_true, decide_eq_true_iff]
            omega
          have er : qfr x (to - 24) S = (3, S) := by
            unfold qfr
            exact (if_pos eqn).trans (if_pos et)
          rw [er] at h1
          exact h1 (by show ¬ (3 : Int) = 0; decide) _ (rFl_bad hT) rg_bad
        · refine And.intro (show 0 ≤ 2 ∧ 2 < 179 from by omega) ?_
          have f12 : 0 ≤ σ 53 2 ∧ σ 53 2 ≤ 12 := zbL B hb (t := 53) (a := 2) (n := 3) (i := 2) (by decide +kernel) (by omega) (by omega)
          refine And.intro (by have := hS.2.1; have := hS.2.2.1; have := hS.2.2.2.1; omega) (fun r13 (t14 : rfd (σ 55) 36 (σ 53 2) (σ 12 17) r13) => ?_)
          have et14 : r13 = qfd S.2.2 12 (S.2.1 2) (qwd x.1 x.2.1 S.1) := by
            rw [b2, hT.2.1.2.2.2.2 (qnmp_k eqn)] at t14
            exact (qfd_of (by have := hS.2.1; have := hS.2.2.1; have := hS.2.2.2.1; omega) t14).trans (qfd_sh (by have := hS.2.1; have := hS.2.2.1; have := hS.2.2.2.1; omega) (fun i i0 i1 => by have := hS.2.1; have := hS.2.2.1; have := hS.2.2.2.1; rw [show (36 : Int) + i = 24 + (12 + i) by omega]; exact hTb.2 (12 + i) (by omega) (by omega)))
          refine And.intro (fun (c15 : r13 < 0) => ?_) (fun (c16 : 0 ≤ r13) => ?_)
          · refine And.intro (show 0 ≤ to ∧ to < 48 from by omega) ?_
            refine fun (σ1 : vS) (fσ1 : rfr (vup σ 55 to (σ 12 17)) σ1) (tσ1 : rtk (rtx (vup σ 55 to (σ 12 17))) ((vup σ 55 to (σ 12 17)) 12 3) ((vup σ 55 to (σ 12 17)) 12 5) (tE (fun q => tbk (rtx (vup σ 55 to (σ 12 17)) q)) ((vup σ 55 to (σ 12 17)) 12 3) ((vup σ 55 to (σ 12 17)) 12 4)) σ1) => ?_
            refine And.intro (show 0 ≤ 1 ∧ 1 ≤ 1 from by omega) ?_
            have et : qTold x S = false := by
              unfold qTold
              simp only [Bool.or_eq_false_iff, decide_eq_false_iff_not]
              omega
            have er : qfr x (to - 24) S = (0, qadv x (S.1, S.2.1, qup S.2.2 (to - 24) (qwd x.1 x.2.1 S.1))) := by
              unfold qfr
              exact (if_pos eqn).trans (if_neg (by rw [et]; exact Bool.false_ne_true))
            rw [er] at h2
            have k1 := qnmp_k eqn
            refine h2 rfl _ (rT_next (p := S.1) (rT_t hT (by decide)) (by omega) (lim_ok B hb hT.1).1 fσ1 tσ1) ⟨fun i hi => ?_, fun i i0 i1 => ?_⟩ (rgl_tr ⟨fun i a b => ?_, ?_, fun i a b => ?_⟩ (rg_l (rg_of fσ1)))
            · rw [fσ1.1 53 (by decide), vup_fr (by decide)]
              exact hTb.1 i hi
            · rw [fσ1.1 55 (by decide)]
              show _ = qup S.2.2 (to - 24) (qwd x.1 x.2.1 S.1) i
              by_cases q : i = to - 24
              · rw [q, qup_s, show (24 : Int) + (to - 24) = to by omega, vup_eq]
                exact hT.2.1.2.2.2.2 k1
              · rw [qup_n q, vup_ne 55 (24 + i) (fun q2 => by have := q2.2; omega)]
                exact hTb.2 i i0 i1
            · rw [vup_fr (by decide)]
            · rw [vup_fr (by decide)]
            · rw [vup_ne 55 i (fun q2 => by have := q2.2; omega)]
          · refine And.intro (by omega) ?_
            refine And.intro (show 0 ≤ 0 ∧ 0 ≤ 1 from by omega) ?_
            have et : qTold x S = true := by
              unfold qTold
              simp only [Bool.or_eq_true, decide_eq_true_iff]
              omega
            have er : qfr x (to - 24) S = (3, S) := by
              unfold qfr
              exact (if_pos eqn).trans (if_pos et)
            rw [er] at h1
            exact h1 (by show ¬ (3 : Int) = 0; decide) _ (rFl_bad hT) rg_bad
    · refine And.intro (fun (q : ¬ 0 = 0) => absurd q (by decide)) (fun _ => ?_)
      refine And.intro (by omega) ?_
      refine And.intro (show 0 ≤ 0 ∧ 0 ≤ 1 from by omega) ?_
      have er : qfr x (to - 24) S = (1, S) := by
        unfold qfr
        exact if_neg (fun q => t1 ((rnm_q hT).mpr q))
      rw [er] at h1
      exact h1 (by show ¬ (1 : Int) = 0; decide) _ (rFl_bad hT) rg_bad
  · exact absurd h id
end ZU1
