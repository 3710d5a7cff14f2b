/-! THE CLASS READS A TERRACE: areJoined, fill, and what stores make of the relation with the words. -/
noncomputable section
def cjn (σ : vS) (r s m : Int) : Prop := ∃ i : Int, (0 ≤ i ∧ i < m) ∧ ((σ 84 i = r ∧ σ 85 i = s) ∨ (σ 85 i = r ∧ σ 84 i = s))
def vs78 : vSpL := fun vs σ K => match vs with
  | [.inr (.inl 78), .inl rooms, .inl closed] => closed = 0 ∧ ∃ r : Int, rooms = vshl 1 r ∧ (0 ≤ r ∧ r ≤ 11) ∧ ∀ f : Int, (∀ s : Int, 0 ≤ s → s ≤ 31 → (tb f s = true ↔ cjn σ r s (σ 78 8))) → K (some (.inl f)) σ
  | _ => False
def vs77 : vSpL := fun vs σ K => match vs with
  | [.inr (.inl 78), .inl r, .inl s] => ((0 ≤ r ∧ r ≤ 11) ∧ 0 ≤ s ∧ s ≤ 11) ∧ (cjn σ r s (σ 78 8) → K (some (.inl 1)) σ) ∧ (¬ cjn σ r s (σ 78 8) → K (some (.inl 0)) σ)
  | _ => False
def cln (t : Nat) : Int := if t = 79 then 3 else if t = 86 then 72 else if t = 88 then 12 else 6
def vs304 : vSpL := fun vs σ K => match vs with
  | [.inr (.inl t), .inl v] => ((t = 79 ∧ v = 0) ∨ (t = 86 ∧ v = 0) ∨ (t = 88 ∧ v = -1) ∨ (t = 89 ∧ v = -1) ∨ (t = 90 ∧ v = -1) ∨ (t = 91 ∧ v = 0) ∨ (t = 92 ∧ v = 0)) ∧ ∀ σ2 : vS, (∀ t2, ¬ t2 = t → σ2 t2 = σ t2) → (∀ j : Int, 0 ≤ j → j < cln t → σ2 t j = v) → K none σ2
  | _ => False
/-- robes, as bits: how many -/
def qpc (x : Int) : Nat → Int
  | 0 => 0
  | k + 1 => qpc x k + (if tb x (k : Int) = true then 1 else 0)
def rbk (x m c : Int) : Prop := (∀ k : Int, m ≤ k → k ≤ 31 → tb x k = false) ∧ qpc x 20 = c
def cTb (S : qS) (σ : vS) : Prop := cRd S σ ∧ (σ 78 8 = S.2.1 3 ∧ rbk (σ 78 9) (S.2.1 3) (S.2.1 4)) ∧ (∀ i : Int, 0 ≤ i → i < S.2.1 3 → σ 84 i = S.2.1 (29 + i) ∧ σ 85 i = S.2.1 (49 + i)) ∧ (∀ i : Int, 0 ≤ i → i < 72 → σ 86 i = S.2.1 (107 + i)) ∧ ∀ i : Int, 0 ≤ i → i < 6 → σ 89 i = S.2.1 (89 + i) - 1 ∧ σ 90 i = S.2.1 (101 + i) - 1 ∧ σ 91 i = S.2.1 (95 + i)
def zr79 : List (Nat × Int × Int) := [(1, .ofNat 0, .ofNat 6), (2, .ofNat 0, .ofNat 6), (3, .ofNat 0, .ofNat 12)]
/-- the words of a LINE -/
def cRs (x : qX) (R : qR) (K : vKL) : Prop := (¬ R.1 = 0 → ∀ σ2, cFl x R.1 R.2.1 σ2 → K (some (.inl 0)) σ2) ∧ (R.1 = 0 → ∀ σ2, cT x R.2.1 σ2 → cTb R.2 σ2 → K (some (.inl 1)) σ2)
/-- alike, but for what a FAULT leaves -/
def qEq (r s : qR) : Prop := r.1 = s.1 ∧ (r.1 = 0 → r.2 = s.2) ∧ r.2.1 = s.2.1
end
theorem rg79 {i v : Int} (h : (i = 0 ∧ 0 ≤ v ∧ v ≤ 6) ∨ (i = 1 ∧ 0 ≤ v ∧ v ≤ 6) ∨ (i = 2 ∧ 0 ≤ v ∧ v ≤ 12)) : vRg zr79 i v := by
  show ∀ q, rgAt zr79 i.toNat = some q → q.1 ≤ v ∧ v ≤ q.2
  intro q hq
  rcases h with ⟨rfl, h⟩ | ⟨rfl, h⟩ | ⟨rfl, h⟩
  · cases hq; exact h
  · cases hq; exact h
  · cases hq; exact h
theorem rg79z {i : Int} (h0 : 0 ≤ i) (h1 : i < 3) : vRg zr79 i 0 := rg79 (by omega)
theorem cjn_more {σ : vS} {r s i : Int} (h0 : 0 ≤ i) : cjn σ r s (i + 1) ↔ cjn σ r s i ∨ ((σ 84 i = r ∧ σ 85 i = s) ∨ (σ 85 i = r ∧ σ 84 i = s)) := by
  constructor
  · rintro ⟨j, hj, h⟩
    by_cases e : j = i
    · subst e; exact Or.inr h
    · exact Or.inl ⟨j, by omega, h⟩
  · rintro (⟨j, hj, h⟩ | h)
    · exact ⟨j, by omega, h⟩
    · exact ⟨i, by omega, h⟩
theorem has_1 {r k : Int} (hr : 0 ≤ r ∧ r ≤ 11) (hk : 0 ≤ k ∧ k ≤ 11) : (vand (vshr (vshl 1 r) k) 1 = 1 ∧ k = r) ∨ (vand (vshr (vshl 1 r) k) 1 = 0 ∧ ¬ k = r) := by
  rw [tb_bit hk.1 (by omega), tb_shl hr.1 (by omega) hk.1 (by omega)]
  by_cases e : k = r
  · exact Or.inl ⟨by rw [decide_eq_true e]; rfl, e⟩
  · exact Or.inr ⟨by rw [decide_eq_false e]; rfl, e⟩
theorem has_0 {k : Int} (hk : 0 ≤ k ∧ k ≤ 31) : vand (vshr 0 k) 1 = 0 := by
  rw [tb_bit hk.1 hk.2, tb_0]
  rfl
theorem qEq_refl {r : qR} : qEq r r := ⟨rfl, fun _ => rfl, rfl⟩
theorem cRs_eq {x : qX} {R R2 : qR} {K : vKL} (h : qEq R R2) (hK : cRs x R2 K) : cRs x R K := by
  obtain ⟨h1, h2, h3⟩ := h
  refine ⟨fun q σ2 F => hK.1 (by rw [← h1]; exact q) σ2 (by rw [← h1, ← h3]; exact F), fun q σ2 T b => ?_⟩
  rw [h2 q] at b
  exact hK.2 (h1.symm.trans q) σ2 (by rw [← h3]; exact T) b
theorem cRs_f {x : qX} {R : qR} {σ2 : vS} {K : vKL} {k : Int} {S : qS} (h : cRs x R K) (e : R = (k, S)) (hk : ¬ k = 0) (F : cFl x k S.1 σ2) : K (some (.inl 0)) σ2 := by
  subst e
  exact h.1 hk σ2 F
theorem cRs_d {x : qX} {R : qR} {σ2 : vS} {K : vKL} {S : qS} (h : cRs x R K) (e : R = (0, S)) (T : cT x S.1 σ2) (b : cTb S σ2) : K (some (.inl 1)) σ2 := by
  subst e
  exact h.2 rfl σ2 T b
theorem cTb_fr {S : qS} {σ σ2 : vS} (h : cTb S σ) (g : ∀ t, ¬ t = 7 → σ2 t = σ t) : cTb S σ2 := by
  unfold cTb cRd at h ⊢
  rw [g 78 (by decide), g 79 (by decide), g 80 (by decide), g 81 (by decide), g 82 (by decide), g 84 (by decide), g 85 (by decide), g 86 (by decide), g 89 (by decide), g 90 (by decide), g 91 (by decide)]
  exact h
theorem cTb_t {S : qS} {σ : vS} {t : Nat} {i v : Int} (h : cTb S σ) (ht : t = 7 ∨ t = 83 ∨ t = 88 ∨ t = 92) : cTb S (vup σ t i v) := by
  have g : ∀ s, ¬ s = 7 → ¬ s = 83 → ¬ s = 88 → ¬ s = 92 → vup σ t i v s = σ s := fun s a b c d => vup_fr (by omega)
  unfold cTb cRd at h ⊢
  rw [g 78 (by decide) (by decide) (by decide) (by decide), g 79 (by decide) (by decide) (by decide) (by decide), g 80 (by decide) (by decide) (by decide) (by decide), g 81 (by decide) (by decide) (by decide) (by decide), g 82 (by decide) (by decide) (by decide) (by decide), g 84 (by decide) (by decide) (by decide) (by decide), g 85 (by decide) (by decide) (by decide) (by decide), g 86 (by decide) (by decide) (by decide) (by decide), g 89 (by decide) (by decide) (by decide) (by decide), g 90 (by decide) (by decide) (by decide) (by decide), g 91 (by decide) (by decide) (by decide) (by decide)]
  exact h
theorem cT_t {x : qX} {p : Int} {σ : vS} {t : Nat} {i v : Int} (h : cT x p σ) (ht : 78 ≤ t) : cT x p (vup σ t i v) := by
  have e : ∀ s, s < 78 → vup σ t i v s = σ s := fun s hs => vup_fr (by omega)
  have e7 := e 7 (by decide)
  have e34 := e 34 (by decide)
  have e35 := e 35 (by decide)
  have ec : ctx (vup σ t i v) = ctx σ := by unfold ctx; rw [e34]
  unfold cT cTB cTk at h ⊢
  rw [e7, e35, ec]
  exact h
theorem qst_o {S : qS} {i v j : Int} (h : ¬ j = i) : (qst i v S).2.1 j = S.2.1 j := if_neg h
theorem qst_s {S : qS} {i v : Int} : (qst i v S).2.1 i = v := if_pos rfl
theorem cRd_st {S : qS} {σ σ2 : vS} {i v : Int} (h : cRd S σ) (hi : 5 ≤ i) (e : ∀ t, 79 ≤ t → t ≤ 82 → σ2 t = σ t) : cRd (qst i v S) σ2 := by
  unfold cRd at h ⊢
  rw [qst_o (by omega), qst_o (by omega), qst_o (by omega), e 79 (by decide) (by decide), e 80 (by decide) (by decide), e 81 (by decide) (by decide), e 82 (by decide) (by decide)]
  exact h
theorem cTb_st {S : qS} {σ : vS} {t : Nat} {j i u v : Int} (hS3 : S.2.1 3 ≤ 20) (h : cTb S σ) (ht : (t = 86 ∧ i = 107 + j ∧ 0 ≤ j ∧ j < 72 ∧ u = v) ∨ (t = 89 ∧ i = 89 + j ∧ 0 ≤ j ∧ j < 6 ∧ u = v - 1) ∨ (t = 90 ∧ i = 101 + j ∧ 0 ≤ j ∧ j < 6 ∧ u = v - 1) ∨ (t = 91 ∧ i = 95 + j ∧ 0 ≤ j ∧ j < 6 ∧ u = v)) : cTb (qst i v S) (vup σ t j u) := by
  obtain ⟨h1, h2, h3, h4, h5⟩ := h
  have e : ∀ s, ¬ s = 86 → ¬ s = 89 → ¬ s = 90 → ¬ s = 91 → vup σ t j u s = σ s := fun s a b c d => vup_fr (by omega)
  have o : ∀ q, q < 89 → (qst i v S).2.1 q = S.2.1 q := fun q hq => qst_o (by omega)
  refine ⟨cRd_st h1 (by omega) (fun s a b => vup_fr (by omega)), ?_, fun q a b => ?_, fun q a b => ?_, fun q a b => ?_⟩
  · rw [o 3 (by omega), o 4 (by omega), e 78 (by decide) (by decide) (by decide) (by decide)]
    exact h2
  · rw [o 3 (by omega)] at b
    rw [o (29 + q) (by omega), o (49 + q) (by omega), e 84 (by decide) (by decide) (by decide) (by decide), e 85 (by decide) (by decide) (by decide) (by decide)]
    exact h3 q a b
  · have g := h4 q a b
    rcases ht with ⟨rfl, rfl, -, -, rfl⟩ | ht | ht | ht
    · by_cases q2 : q = j
      · rw [q2, vup_eq, qst_s]
      · rw [vup_ne 86 q (fun w => q2 w.2), qst_o (by omega)]; exact g
    all_goals (rw [vup_ne 86 q (fun w => by have := w.1; omega), qst_o (by omega)]; exact g)
  · obtain ⟨g1, g2, g3⟩ := h5 q a b
    rcases ht with ⟨rfl, rfl, y0, y1, rfl⟩ | ⟨rfl, rfl, y0, y1, rfl⟩ | ⟨rfl, rfl, y0, y1, rfl⟩ | ⟨rfl, rfl, y0, y1, rfl⟩
    · rw [vup_fr (by decide), vup_fr (by decide), vup_fr (by decide), qst_o (by omega), qst_o (by omega), qst_o (by omega)]
      exact ⟨g1, g2, g3⟩
    · rw [vup_fr (t2 := 90) (by decide), vup_fr (t2 := 91) (by decide), qst_o (j := 101 + q) (by omega), qst_o (j := 95 + q) (by omega)]
      refine ⟨?_, g2, g3⟩
      by_cases q2 : q = j
      · rw [q2, vup_eq, qst_s]
      · rw [vup_ne 89 q (fun w => q2 w.2), qst_o (by omega)]; exact g1
    · rw [vup_fr (t2 := 89) (by decide), vup_fr (t2 := 91) (by decide), qst_o (j := 89 + q) (by omega), qst_o (j := 95 + q) (by omega)]
      refine ⟨g1, ?_, g3⟩
      by_cases q2 : q = j
      · rw [q2, vup_eq, qst_s]
      · rw [vup_ne 90 q (fun w => q2 w.2), qst_o (by omega)]; exact g2
    · rw [vup_fr (t2 := 89) (by decide), vup_fr (t2 := 90) (by decide), qst_o (j := 89 + q) (by omega), qst_o (j := 101 + q) (by omega)]
      refine ⟨g1, g2, ?_⟩
      by_cases q2 : q = j
      · rw [q2, vup_eq, qst_s]
      · rw [vup_ne 91 q (fun w => q2 w.2), qst_o (by omega)]; exact g3
theorem cNm_up {f nm : Int → Int} {m b w c : Int} (h : cNm f m nm b) (hm : 0 ≤ m) (hc : 0 ≤ c ∧ c < 10460353203) (hw : w = tph 7 c) : cNm (ful f m c) (m + 1) (qup nm (b + m) w) b := fun i i0 i1 => by
  unfold ful qup
  by_cases e : i = m
  · rw [if_pos e, if_pos (by omega)]; exact ⟨hc, hw⟩
  · rw [if_neg e, if_neg (by omega)]; exact h i i0 (by omega)
theorem cNm_o {f nm : Int → Int} {m b j w : Int} (h : cNm f m nm b) (hj : j < b ∨ b + m ≤ j) : cNm f m (qup nm j w) b := fun i i0 i1 => by
  unfold qup
  rw [if_neg (by omega)]
  exact h i i0 i1
/-- a NAME is told -/
theorem cTb_tell {S : qS} {σ : vS} {k : Nat} {code w : Int} (hH : cHn S) (h : cTb S σ) (hk : k < 3) (hc : 0 ≤ code ∧ code < 10460353203) (hw : w = tph 7 code) (hm : ¬ S.2.1 (k : Int) = (if k = 2 then 12 else 6)) : cTb (S.1, qup S.2.1 (k : Int) (S.2.1 (k : Int) + 1), qup S.2.2 ((if k = 0 then 0 else if k = 1 then 6 else 12) + S.2.1 (k : Int)) w) (vup (vup σ (80 + k) (S.2.1 (k : Int)) code) 79 (k : Int) (S.2.1 (k : Int) + 1)) := by
  obtain ⟨⟨⟨c0, c1, c2⟩, n0, n1, n2⟩, h2, h3, h4, h5⟩ := h
  obtain ⟨b0, b1, b2⟩ := hH
  have e : ∀ s, ¬ s = 79 → ¬ s = 80 + k → (vup (vup σ (80 + k) (S.2.1 (k : Int)) code) 79 (k : Int) (S.2.1 (k : Int) + 1)) s = σ s := fun s a b => by rw [vup_fr a, vup_fr b]
  have o : ∀ q : Int, 3 ≤ q → qup S.2.1 (k : Int) (S.2.1 (k : Int) + 1) q = S.2.1 q := fun q hq => qup_o (by omega)
  have u : ∀ q : Int, ¬ q = (k : Int) → (vup (vup σ (80 + k) (S.2.1 (k : Int)) code) 79 (k : Int) (S.2.1 (k : Int) + 1)) 79 q = σ 79 q := fun q hq => (vup_ne 79 q (fun z => hq z.2)).trans (vup_ne 79 q (fun z => by have := z.1; omega))
  refine ⟨?_, ?_, fun q a b => ?_, fun q a b => ?_, fun q a b => ?_⟩
  · rcases (show k = 0 ∨ k = 1 ∨ k = 2 by omega) with rfl | rfl | rfl
    · refine ⟨⟨(show (vup (vup σ 80 (S.2.1 0) code) 79 0 (S.2.1 0 + 1)) 79 0 = qup S.2.1 0 (S.2.1 0 + 1) 0 from vup_eq.trans qup_s.symm), ?_, ?_⟩, ?_, ?_, ?_⟩
      · exact (u 1 (by decide)).trans (c1.trans (qup_o (f := S.2.1) (i := ((0 : Nat) : Int)) (v := S.2.1 0 + 1) (j := 1) (by decide)).symm)
      · exact (u 2 (by decide)).trans (c2.trans (qup_o (f := S.2.1) (i := ((0 : Nat) : Int)) (v := S.2.1 0 + 1) (j := 2) (by decide)).symm)
      · have := cNm_up n0 b0.1 hc hw
        rw [vup_fr (by decide), vup_f]
        exact this
      · rw [vup_fr (by decide), vup_fr (by decide)]
        exact cNm_o n1 (by show 0 + S.2.1 0 < 6 ∨ _; have hm : ¬ S.2.1 0 = 6 := hm; omega)
      · rw [vup_fr (by decide), vup_fr (by decide)]
        exact cNm_o n2 (by show 0 + S.2.1 0 < 12 ∨ _; omega)
    · refine ⟨⟨?_, (show (vup (vup σ 81 (S.2.1 1) code) 79 1 (S.2.1 1 + 1)) 79 1 = qup S.2.1 1 (S.2.1 1 + 1) 1 from vup_eq.trans qup_s.symm), ?_⟩, ?_, ?_, ?_⟩
      · exact (u 0 (by decide)).trans (c0.trans (qup_o (f := S.2.1) (i := ((1 : Nat) : Int)) (v := S.2.1 1 + 1) (j := 0) (by decide)).symm)
      · exact (u 2 (by decide)).trans (c2.trans (qup_o (f := S.2.1) (i := ((1 : Nat) : Int)) (v := S.2.1 1 + 1) (j := 2) (by decide)).symm)
      · rw [vup_fr (by decide), vup_fr (by decide)]
        exact cNm_o n0 (by show _ ∨ 0 + S.2.1 0 ≤ 6 + S.2.1 1; omega)
      · have := cNm_up n1 b1.1 hc hw
        rw [vup_fr (by decide), vup_f]
        exact this
      · rw [vup_fr (by decide), vup_fr (by decide)]
        exact cNm_o n2 (by show 6 + S.2.1 1 < 12 ∨ _; have hm : ¬ S.2.1 1 = 6 := hm; omega)
    · refine ⟨⟨?_, ?_, (show (vup (vup σ 82 (S.2.1 2) code) 79 2 (S.2.1 2 + 1)) 79 2 = qup S.2.1 2 (S.2.1 2 + 1) 2 from vup_eq.trans qup_s.symm)⟩, ?_, ?_, ?_⟩
      · exact (u 0 (by decide)).trans (c0.trans (qup_o (f := S.2.1) (i := ((2 : Nat) : Int)) (v := S.2.1 2 + 1) (j := 0) (by decide)).symm)
      · exact (u 1 (by decide)).trans (c1.trans (qup_o (f := S.2.1) (i := ((2 : Nat) : Int)) (v := S.2.1 2 + 1) (j := 1) (by decide)).symm)
      · rw [vup_fr (by decide), vup_fr (by decide)]
        exact cNm_o n0 (by show _ ∨ 0 + S.2.1 0 ≤ 12 + S.2.1 2; omega)
      · rw [vup_fr (by decide), vup_fr (by decide)]
        exact cNm_o n1 (by show _ ∨ 6 + S.2.1 1 ≤ 12 + S.2.1 2; omega)
      · have := cNm_up n2 b2.1 hc hw
        rw [vup_fr (by decide), vup_f]
        exact this
  · rw [e 78 (by decide) (by omega)]
    show σ 78 8 = qup S.2.1 _ _ 3 ∧ rbk (σ 78 9) (qup S.2.1 _ _ 3) (qup S.2.1 _ _ 4)
    rw [o 3 (by omega), o 4 (by omega)]
    exact h2
  · have b : q < qup S.2.1 (k : Int) (S.2.1 (k : Int) + 1) 3 := b
    rw [o 3 (by omega)] at b
    rw [e 84 (by decide) (by omega), e 85 (by decide) (by omega)]
    show σ 84 q = qup S.2.1 _ _ (29 + q) ∧ σ 85 q = qup S.2.1 _ _ (49 + q)
    rw [o _ (by omega), o _ (by omega)]
    exact h3 q a b
  · rw [e 86 (by decide) (by omega)]
    show σ 86 q = qup S.2.1 _ _ (107 + q)
    rw [o _ (by omega)]
    exact h4 q a b
  · rw [e 89 (by decide) (by omega), e 90 (by decide) (by omega), e 91 (by decide) (by omega)]
    show σ 89 q = qup S.2.1 _ _ (89 + q) - 1 ∧ σ 90 q = qup S.2.1 _ _ (101 + q) - 1 ∧ σ 91 q = qup S.2.1 _ _ (95 + q)
    rw [o _ (by omega), o _ (by omega), o _ (by omega)]
    exact h5 q a b
theorem qpc_0 {x y : Int} (h : ∀ k : Int, 0 ≤ k → k < 32 → tb y k = tb x k) : ∀ n : Nat, n ≤ 32 → qpc y n = qpc x n
  | 0, _ => rfl
  | n + 1, hn => by
    show qpc y n + (if tb y (n : Int) = true then 1 else 0) = qpc x n + (if tb x (n : Int) = true then 1 else 0)
    rw [qpc_0 h n (by omega), h n (by omega) (by omega)]
theorem qpc_1 {x y m : Int} (hm : 0 ≤ m) (hx : tb x m = false) (h : ∀ k : Int, 0 ≤ k → k < 32 → tb y k = (tb x k || decide (k = m))) : ∀ n : Nat, n ≤ 32 → qpc y n = qpc x n + (if m < (n : Int) then 1 else 0)
  | 0, _ => by rw [if_neg (by omega)]; rfl
  | n + 1, hn => by
    show qpc y n + (if tb y (n : Int) = true then 1 else 0) = qpc x n + (if tb x (n : Int) = true then 1 else 0) + _
    rw [qpc_1 hm hx h n (by omega), h n (by omega) (by omega)]
    rcases Int.lt_trichotomy (n : Int) m with q | q | q
    · rw [decide_eq_false (show ¬ (n : Int) = m by omega), Bool.or_false, if_neg (show ¬ m < (n : Int) by omega), if_neg (show ¬ m < ((n + 1 : Nat) : Int) by omega)]
      omega
    · rw [q, hx, decide_eq_true rfl, if_neg (show ¬ m < m by omega), if_pos (show m < ((n + 1 : Nat) : Int) by omega)]
      simp
    · rw [decide_eq_false (show ¬ (n : Int) = m by omega), Bool.or_false, if_pos (show m < (n : Int) by omega), if_pos (show m < ((n + 1 : Nat) : Int) by omega)]
      omega
theorem rbk_0 {x m c : Int} (h : rbk x m c) : rbk (vor x 0) (m + 1) (c + 0) := by
  have e : ∀ k : Int, tb (vor x 0) k = tb x k := fun k => by rw [tb_or, tb_0, Bool.or_false]
  exact ⟨fun k a b => (e k).trans (h.1 k (by omega) b), by rw [qpc_0 (fun k _ _ => e k) 20 (by decide), h.2]; omega⟩
theorem rbk_1 {x m c : Int} (h : rbk x m c) (hm : 0 ≤ m ∧ m < 20) : rbk (vor x (vshl 1 m)) (m + 1) (c + 1) := by
  have e : ∀ k : Int, 0 ≤ k → k < 32 → tb (vor x (vshl 1 m)) k = (tb x k || decide (k = m)) := fun k a b => by rw [tb_or, tb_shl hm.1 (by omega) a (by omega)]
  refine ⟨fun k a b => ?_, ?_⟩
  · rw [e k (by omega) (by omega), h.1 k (by omega) b, decide_eq_false (show ¬ k = m by omega)]
    rfl
  · rw [qpc_1 hm.1 (h.1 m (by omega) (by omega)) e 20 (by decide), h.2, if_pos (by omega)]
theorem cTb_join {S : qS} {σ : vS} {r a b u : Int} (h : cTb S σ) (h3 : 0 ≤ S.2.1 3 ∧ S.2.1 3 < 20) (hu : rbk u (S.2.1 3 + 1) (S.2.1 4 + r)) : cTb (qJoin r a b S) (vup (vup (vup (vup σ 84 (S.2.1 3) a) 85 (S.2.1 3) b) 78 9 u) 78 8 (S.2.1 3 + 1)) := by
  obtain ⟨⟨⟨c0, c1, c2⟩, n⟩, h2, h3', h4, h5⟩ := h
  have e3 : (qJoin r a b S).2.1 3 = S.2.1 3 + 1 := by
    show qup (qup (qup (qup S.2.1 (29 + S.2.1 3) a) (49 + S.2.1 3) b) 4 (S.2.1 4 + r)) 3 (S.2.1 3 + 1) 3 = _
    exact qup_s
  have e4 : (qJoin r a b S).2.1 4 = S.2.1 4 + r := by
    show qup (qup (qup (qup S.2.1 (29 + S.2.1 3) a) (49 + S.2.1 3) b) 4 (S.2.1 4 + r)) 3 (S.2.1 3 + 1) 4 = _
    exact (qup_o (by decide)).trans qup_s
  have o : ∀ j, ¬ j = 3 → ¬ j = 4 → ¬ j = 49 + S.2.1 3 → ¬ j = 29 + S.2.1 3 → (qJoin r a b S).2.1 j = S.2.1 j := fun j a1 a2 a3 a4 => (qup_o a1).trans ((qup_o a2).trans ((qup_o a3).trans (qup_o a4)))
  have e49 : (qJoin r a b S).2.1 (49 + S.2.1 3) = b := by
    show qup (qup (qup (qup S.2.1 (29 + S.2.1 3) a) (49 + S.2.1 3) b) 4 (S.2.1 4 + r)) 3 (S.2.1 3 + 1) (49 + S.2.1 3) = _
    exact (qup_o (by omega)).trans ((qup_o (by omega)).trans qup_s)
  have e29 : (qJoin r a b S).2.1 (29 + S.2.1 3) = a := by
    show qup (qup (qup (qup S.2.1 (29 + S.2.1 3) a) (49 + S.2.1 3) b) 4 (S.2.1 4 + r)) 3 (S.2.1 3 + 1) (29 + S.2.1 3) = _
    exact (qup_o (by omega)).trans ((qup_o (by omega)).trans ((qup_o (by omega)).trans qup_s))
  have e : ∀ s, ¬ s = 78 → ¬ s = 84 → ¬ s = 85 → (vup (vup (vup (vup σ 84 (S.2.1 3) a) 85 (S.2.1 3) b) 78 9 u) 78 8 (S.2.1 3 + 1)) s = σ s := fun s a b c => by rw [vup_fr a, vup_fr a, vup_fr c, vup_fr b]
  refine ⟨⟨⟨?_, ?_, ?_⟩, ?_⟩, ⟨?_, ?_⟩, fun q a b => ?_, fun q a b => ?_, fun q a b => ?_⟩
  · rw [e 79 (by decide) (by decide) (by decide), o 0 (by omega) (by omega) (by omega) (by omega)]; exact c0
  · rw [e 79 (by decide) (by decide) (by decide), o 1 (by omega) (by omega) (by omega) (by omega)]; exact c1
  · rw [e 79 (by decide) (by decide) (by decide), o 2 (by omega) (by omega) (by omega) (by omega)]; exact c2
  · rw [e 80 (by decide) (by decide) (by decide), e 81 (by decide) (by decide) (by decide), e 82 (by decide) (by decide) (by decide), o 0 (by omega) (by omega) (by omega) (by omega), o 1 (by omega) (by omega) (by omega) (by omega), o 2 (by omega) (by omega) (by omega) (by omega)]
    exact n
  · rw [e3]; exact vup_eq
  · rw [e3, e4, vup_ne 78 9 (by decide), vup_eq]; exact hu
  · rw [e3] at b
    rw [vup_fr (t2 := 84) (by decide), vup_fr (t2 := 84) (by decide), vup_fr (t2 := 84) (by decide), vup_fr (t2 := 85) (by decide), vup_fr (t2 := 85) (by decide)]
    by_cases q2 : q = S.2.1 3
    · rw [q2, e29, e49, vup_eq, vup_eq]; exact ⟨rfl, rfl⟩
    · rw [vup_ne 84 q (fun w => q2 w.2), vup_ne 85 q (fun w => q2 w.2), vup_fr (t2 := 85) (by decide), o (29 + q) (by omega) (by omega) (by omega) (by omega), o (49 + q) (by omega) (by omega) (by omega) (by omega)]
      exact h3' q a (by omega)
  · rw [e 86 (by decide) (by decide) (by decide), o (107 + q) (by omega) (by omega) (by omega) (by omega)]; exact h4 q a b
  · rw [e 89 (by decide) (by decide) (by decide), e 90 (by decide) (by decide) (by decide), e 91 (by decide) (by decide) (by decide), o (89 + q) (by omega) (by omega) (by omega) (by omega), o (101 + q) (by omega) (by omega) (by omega) (by omega), o (95 + q) (by omega) (by omega) (by omega) (by omega)]
    exact h5 q a b
section ZV2
variable {E : zE} {w : va_W} {σ : vS} {K : vKL}
set_option maxRecDepth 8192 in
theorem vk_78l (X : zX gKX E) (B : zB E) {r : Int} (hr : 0 ≤ r ∧ r ≤ 11) (hK : ∀ f : Int, (∀ s : Int, 0 ≤ s → s ≤ 31 → (tb f s = true ↔ cjn σ r s (σ 78 8))) → K (some (.inl f)) σ) : ∀ (m : Nat) (i f : Int), 20 - i < (m : Int) → 0 ≤ i → i ≤ σ 78 8 → (∀ s : Int, 0 ≤ s → s ≤ 31 → (tb f s = true ↔ cjn σ r s i)) → zGC E md72 w gm_78 5 [(0, .inr (.inl 78)), (1, .inl (vshl 1 r)), (2, .inl 0), (3, .inl f), (4, .inl i)] σ K := by
  intro m
  induction m with
  | zero => intro i f h h0 h1 _; exact zbdC (fun hb => by have f8 : 0 ≤ σ 78 8 ∧ σ 78 8 ≤ 20 := zfC hb (t := 78) (f := 8) (by decide +kernel); exfalso; omega)
  | succ m ih =>
    intro i f hM i0 i1 hI
    refine zbdC (fun hb0 => ?_)
    have a84 : i < 20 → 0 ≤ σ 84 i ∧ σ 84 i ≤ 11 := fun q => zbC hb0 (t := 84) (a := 0) (n := 20) (i := i) (by decide +kernel) i0 (by omega)
    have a85 : i < 20 → 0 ≤ σ 85 i ∧ σ 85 i ≤ 11 := fun q => zbC hb0 (t := 85) (a := 0) (n := 20) (i := i) (by decide +kernel) i0 (by omega)
    have h84 : i < 20 → _ := fun q => has_1 hr (a84 q)
    have h85 : i < 20 → _ := fun q => has_1 hr (a85 q)
    have hz : i < 20 → vand (vshr 0 i) 1 = 0 := fun q => has_0 (by omega)
    refine zbdC (fun hb => zgoC X B zS_nilC [] [(5, [0, 1, 2, 3, 4])] (fun m => Nat.beq m.2.2.2.2.2.2.length 50) (by decide +kernel) ?_)
    have f1 : 0 ≤ σ 78 8 ∧ σ 78 8 ≤ 20 := zfC hb (t := 78) (f := 8) (by decide +kernel)
    refine And.intro (fun (c2 : (σ 78 8) ≤ i) => ?_) (fun (c3 : i < (σ 78 8)) => ?_)
    · exact hK _ (fun s s0 s1 => by rw [hI s s0 s1, show i = σ 78 8 by omega])
    · refine And.intro (fun (c4 : (vand (vshr 0 i) 1) = 0) => ?_) (fun (c5 : ¬ (vand (vshr 0 i) 1) = 0) => ?_)
      · refine And.intro (show 0 ≤ 0 ∧ 0 ≤ 1 from by omega) ?_
        refine And.intro (fun (q : ¬ 0 = 0) => absurd q (by decide)) (fun _ => ?_)
        refine And.intro (show 0 ≤ i ∧ i < 20 from by omega) ?_
        have f6 : 0 ≤ σ 84 i ∧ σ 84 i ≤ 11 := zbC hb (t := 84) (a := 0) (n := 20) (i := i) (by decide +kernel) (by omega) (by omega)
        refine And.intro (fun (c7 : (vand (vshr (vshl 1 r) (σ 84 i)) 1) = 0) => ?_) (fun (c8 : ¬ (vand (vshr (vshl 1 r) (σ 84 i)) 1) = 0) => ?_)
        · refine And.intro (show 0 ≤ 0 ∧ 0 ≤ 1 from by omega) ?_
          refine And.intro (fun _ => ?_) (fun (q : ¬ 0 = 0) => absurd q (by decide))
          refine And.intro (show 0 ≤ i ∧ i < 20 from by omega) ?_
          have f9 : 0 ≤ σ 85 i ∧ σ 85 i ≤ 11 := zbC hb (t := 85) (a := 0) (n := 20) (i := i) (by decide +kernel) (by omega) (by omega)
          refine And.intro (fun (c10 : (vand (vshr (vshl 1 r) (σ 85 i)) 1) = 0) => ?_) (fun (c11 : ¬ (vand (vshr (vshl 1 r) (σ 85 i)) 1) = 0) => ?_)
          · refine And.intro (show 0 ≤ 0 ∧ 0 ≤ 1 from by omega) ?_
            refine And.intro (fun _ => ?_) (fun (q : ¬ 0 = 0) => absurd q (by decide))
            refine And.intro (show -2147483648 ≤ (i + 1) ∧ (i + 1) ≤ 2147483647 from by omega) ?_
            show zGC E md72 w gm_78 5 [(0, .inr (.inl 78)), (1, .inl (vshl 1 r)), (2, .inl 0), (3, .inl (vor (vor f 0) 0)), (4, .inl (i + 1))] σ K
            refine ih (i + 1) (vor (vor f 0) 0) (by omega) (by omega) (by omega) (fun s s0 s1 => ?_)
            have b1 := tb_shl (j := σ 85 i) (k := s) (by omega) (by omega) s0 s1
            have b2 := tb_shl (j := σ 84 i) (k := s) (by omega) (by omega) s0 s1
            rw [cjn_more i0, ← hI s s0 s1]
            first
              | (exfalso; omega)
              | simp only [tb_or, b1, b2, tb_0, Bool.or_eq_true, decide_eq_true_iff, Bool.false_eq_true, or_false]
            first
              | done
              | (rw [or_assoc]; exact or_congr Iff.rfl (by omega))
              | exact or_congr Iff.rfl (by omega)
              | exact ⟨Or.inl, fun q => q.resolve_right (by omega)⟩
          · refine And.intro (show 0 ≤ 1 ∧ 1 ≤ 1 from by omega) ?_
            refine And.intro (fun (q : 1 = 0) => absurd q (by decide)) (fun _ => ?_)
            refine And.intro (show 0 ≤ i ∧ i < 20 from by omega) ?_
            refine And.intro (show -2147483648 ≤ (i + 1) ∧ (i + 1) ≤ 2147483647 from by omega) ?_
            show zGC E md72 w gm_78 5 [(0, .inr (.inl 78)), (1, .inl (vshl 1 r)), (2, .inl 0), (3, .inl (vor (vor f 0) (vshl 1 (σ 84 i)))), (4, .inl (i + 1))] σ K
            refine ih (i + 1) (vor (vor f 0) (vshl 1 (σ 84 i))) (by omega) (by omega) (by omega) (fun s s0 s1 => ?_)
            have b1 := tb_shl (j := σ 85 i) (k := s) (by omega) (by omega) s0 s1
            have b2 := tb_shl (j := σ 84 i) (k := s) (by omega) (by omega) s0 s1
            rw [cjn_more i0, ← hI s s0 s1]
            first
              | (exfalso; omega)
              | simp only [tb_or, b1, b2, tb_0, Bool.or_eq_true, decide_eq_true_iff, Bool.false_eq_true, or_false]
            first
              | done
              | (rw [or_assoc]; exact or_congr Iff.rfl (by omega))
              | exact or_congr Iff.rfl (by omega)
              | exact ⟨Or.inl, fun q => q.resolve_right (by omega)⟩
        · refine And.intro (show 0 ≤ 1 ∧ 1 ≤ 1 from by omega) ?_
          refine And.intro (fun (q : 1 = 0) => absurd q (by decide)) (fun _ => ?_)
          refine And.intro (show 0 ≤ i ∧ i < 20 from by omega) ?_
          have f12 : 0 ≤ σ 85 i ∧ σ 85 i ≤ 11 := zbC hb (t := 85) (a := 0) (n := 20) (i := i) (by decide +kernel) (by omega) (by omega)
          refine And.intro (show 0 ≤ i ∧ i < 20 from by omega) ?_
          refine And.intro (fun (c13 : (vand (vshr (vshl 1 r) (σ 85 i)) 1) = 0) => ?_) (fun (c14 : ¬ (vand (vshr (vshl 1 r) (σ 85 i)) 1) = 0) => ?_)
          · refine And.intro (show 0 ≤ 0 ∧ 0 ≤ 1 from by omega) ?_
            refine And.intro (fun _ => ?_) (fun (q : ¬ 0 = 0) => absurd q (by decide))
            refine And.intro (show -2147483648 ≤ (i + 1) ∧ (i + 1) ≤ 2147483647 from by omega) ?_
            show zGC E md72 w gm_78 5 [(0, .inr (.inl 78)), (1, .inl (vshl 1 r)), (2, .inl 0), (3, .inl (vor (vor f (vshl 1 (σ 85 i))) 0)), (4, .inl (i + 1))] σ K
            refine ih (i + 1) (vor (vor f (vshl 1 (σ 85 i))) 0) (by omega) (by omega) (by omega) (fun s s0 s1 => ?_)
            have b1 := tb_shl (j := σ 85 i) (k := s) (by omega) (by omega) s0 s1
            have b2 := tb_shl (j := σ 84 i) (k := s) (by omega) (by omega) s0 s1
            rw [cjn_more i0, ← hI s s0 s1]
            first
              | (exfalso; omega)
              | simp only [tb_or, b1, b2, tb_0, Bool.or_eq_true, decide_eq_true_iff, Bool.false_eq_true, or_false]
            first
              | done
              | (rw [or_assoc]; exact or_congr Iff.rfl (by omega))
              | exact or_congr Iff.rfl (by omega)
              | exact ⟨Or.inl, fun q => q.resolve_right (by omega)⟩
          · refine And.intro (show 0 ≤ 1 ∧ 1 ≤ 1 from by omega) ?_
            refine And.intro (fun (q : 1 = 0) => absurd q (by decide)) (fun _ => ?_)
            refine And.intro (show 0 ≤ i ∧ i < 20 from by omega) ?_
            refine And.intro (show -2147483648 ≤ (i + 1) ∧ (i + 1) ≤ 2147483647 from by omega) ?_
            show zGC E md72 w gm_78 5 [(0, .inr (.inl 78)), (1, .inl (vshl 1 r)), (2, .inl 0), (3, .inl (vor (vor f (vshl 1 (σ 85 i))) (vshl 1 (σ 84 i)))), (4, .inl (i + 1))] σ K
            refine ih (i + 1) (vor (vor f (vshl 1 (σ 85 i))) (vshl 1 (σ 84 i))) (by omega) (by omega) (by omega) (fun s s0 s1 => ?_)
            have b1 := tb_shl (j := σ 85 i) (k := s) (by omega) (by omega) s0 s1
            have b2 := tb_shl (j := σ 84 i) (k := s) (by omega) (by omega) s0 s1
            rw [cjn_more i0, ← hI s s0 s1]
            first
              | (exfalso; omega)
              | simp only [tb_or, b1, b2, tb_0, Bool.or_eq_true, decide_eq_true_iff, Bool.false_eq_true, or_false]
            first
              | done
              | (rw [or_assoc]; exact or_congr Iff.rfl (by omega))
              | exact or_congr Iff.rfl (by omega)
              | exact ⟨Or.inl, fun q => q.resolve_right (by omega)⟩
      · refine And.intro (show 0 ≤ 1 ∧ 1 ≤ 1 from by omega) ?_
        refine And.intro (fun _ => ?_) (fun (q : 1 = 0) => absurd q (by decide))
        refine And.intro (show -2147483648 ≤ (i + 1) ∧ (i + 1) ≤ 2147483647 from by omega) ?_
        show zGC E md72 w gm_78 5 [(0, .inr (.inl 78)), (1, .inl (vshl 1 r)), (2, .inl 0), (3, .inl f), (4, .inl (i + 1))] σ K
        refine ih (i + 1) f (by omega) (by omega) (by omega) (fun s s0 s1 => ?_)
        have b1 := tb_shl (j := σ 85 i) (k := s) (by omega) (by omega) s0 s1
        have b2 := tb_shl (j := σ 84 i) (k := s) (by omega) (by omega) s0 s1
        rw [cjn_more i0, ← hI s s0 s1]
        first
          | (exfalso; omega)
          | simp only [tb_or, b1, b2, tb_0, Bool.or_eq_true, decide_eq_true_iff, Bool.false_eq_true, or_false]
        first
          | done
          | (rw [or_assoc]; exact or_congr Iff.rfl (by omega))
          | exact or_congr Iff.rfl (by omega)
          | exact ⟨Or.inl, fun q => q.resolve_right (by omega)⟩
set_option maxRecDepth 8192 in
theorem vk_78 (X : zX gKX E) (B : zB E) : zOKC E md72 w 78 vs78 := by
  intro q hq vs σ K h
  cases (show gMT 78 = some (gm_78, 5) from rfl).symm.trans hq
  unfold vs78 at h
  split at h
  · rename_i rooms closed
    obtain ⟨rfl, r, rfl, hr, hK⟩ := h
    show zGC E md72 w gm_78 0 [(0, .inr (.inl 78)), (1, .inl (vshl 1 r)), (2, .inl 0)] σ K
    refine zbdC (fun hb0 => ?_)
    have f8 : 0 ≤ σ 78 8 ∧ σ 78 8 ≤ 20 := zfC hb0 (t := 78) (f := 8) (by decide +kernel)
    refine zbdC (fun hb => zgoC X B zS_nilC [] [(5, [0, 1, 2, 3, 4])] (fun m => Nat.beq m.2.2.2.2.2.2.length 50) (by decide +kernel) ?_)
    show zGC E md72 w gm_78 5 [(0, .inr (.inl 78)), (1, .inl (vshl 1 r)), (2, .inl 0), (3, .inl 0), (4, .inl 0)] σ K
    exact vk_78l X B hr hK 21 0 0 (by omega) (by omega) (by omega) (fun s s0 s1 => by rw [tb_0]; exact ⟨fun q => absurd q Bool.false_ne_true, fun ⟨j, q, _⟩ => by omega⟩)
  · exact absurd h id
set_option maxRecDepth 8192 in
theorem vk_77 (X : zX gKX E) (B : zB E) : zOKC E md72 w 77 vs77 := by
  intro q hq vs σ K h
  cases (show gMT 77 = some (gm_77, 3) from rfl).symm.trans hq
  unfold vs77 at h
  split at h
  · rename_i r s
    show zGC E md72 w gm_77 0 [(0, .inr (.inl 78)), (1, .inl r), (2, .inl s)] σ K
    obtain ⟨hrs, h1, h0⟩ := h
    refine zbdC (fun hb => zgoC X B (zS_consC (vk_78 X B) zS_nilC) [] [] (fun m => false) (by decide +kernel) ?_)
    refine ⟨rfl, r, rfl, hrs.1, fun f hf => ?_⟩
    have hb := hf s (by omega) (by omega)
    have ht := tb01 (x := f) (k := s) (by omega) (by omega)
    refine And.intro (fun (c1 : (vand (vshr f s) 1) = 0) => ?_) (fun (c2 : ¬ (vand (vshr f s) 1) = 0) => ?_)
    · refine And.intro (show 0 ≤ 0 ∧ 0 ≤ 1 from by omega) ?_
      refine And.intro (show 0 ≤ 0 ∧ 0 ≤ 1 from by omega) ?_
      exact h0 (fun q => by have := hb.mpr q; rcases ht with w | w; omega; rw [w.1] at this; exact Bool.false_ne_true this)
    · refine And.intro (show 0 ≤ 1 ∧ 1 ≤ 1 from by omega) ?_
      refine And.intro (show 0 ≤ 1 ∧ 1 ≤ 1 from by omega) ?_
      exact h1 (hb.mp (by rcases ht with q | q; exact q.1; omega))
  · exact absurd h id
set_option maxRecDepth 8192 in
theorem vk_304l79 (X : zX gKX E) (B : zB E) {σ0 : vS} (hK : ∀ σ2 : vS, (∀ t2, ¬ t2 = 79 → σ2 t2 = σ0 t2) → (∀ j : Int, 0 ≤ j → j < cln 79 → σ2 79 j = 0) → K none σ2) : ∀ (m : Nat) (i : Int) (σ : vS), 3 - i < (m : Int) → 0 ≤ i → i ≤ 3 → (∀ t2, ¬ t2 = 79 → σ t2 = σ0 t2) → (∀ j : Int, 0 ≤ j → j < i → σ 79 j = 0) → zGC E md72 w gm_304 5 [(0, .inr (.inl 79)), (1, .inl 0), (2, .inl i), (3, .inl 3)] σ K := by
  intro m
  induction m with
  | zero => intro i σ h; omega
  | succ m ih =>
    intro i σ hM i0 i1 h1 h2
    refine zbdC (fun hb => zgoC X B zS_nilC [] [(5, [0, 1, 2, 3])] (fun m => Nat.beq m.2.2.2.2.2.2.length 15) (by decide +kernel) ?_)
    refine And.intro (fun (c1 : 3 ≤ i) => ?_) (fun (c2 : i < 3) => ?_)
    · exact hK _ h1 (fun j j0 j1 => h2 j j0 (by have j1 : j < 3 := j1; omega))
    · refine And.intro (show 0 ≤ i ∧ i < 3 from by omega) ?_
      refine And.intro (show vRg zr79 i 0 from rg79z (by omega) (by omega)) ?_
      refine And.intro (show -2147483648 ≤ (i + 1) ∧ (i + 1) ≤ 2147483647 from by omega) ?_
      show zGC E md72 w gm_304 5 [(0, .inr (.inl 79)), (1, .inl 0), (2, .inl (i + 1)), (3, .inl 3)] (vup σ 79 i 0) K
      exact ih (i + 1) _ (by omega) (by omega) (by omega) (fun t2 ht => (vup_fr ht).trans (h1 t2 ht)) (fun j j0 j1 => by
        by_cases e : j = i
        · rw [e]; exact vup_eq
        · exact (vup_ne 79 j (fun q => e q.2)).trans (h2 j j0 (by omega)))
set_option maxRecDepth 8192 in
theorem vk_304l86 (X : zX gKX E) (B : zB E) {σ0 : vS} (hK : ∀ σ2 : vS, (∀ t2, ¬ t2 = 86 → σ2 t2 = σ0 t2) → (∀ j : Int, 0 ≤ j → j < cln 86 → σ2 86 j = 0) → K none σ2) : ∀ (m : Nat) (i : Int) (σ : vS), 72 - i < (m : Int) → 0 ≤ i → i ≤ 72 → (∀ t2, ¬ t2 = 86 → σ t2 = σ0 t2) → (∀ j : Int, 0 ≤ j → j < i → σ 86 j = 0) → zGC E md72 w gm_304 5 [(0, .inr (.inl 86)), (1, .inl 0), (2, .inl i), (3, .inl 72)] σ K := by
  intro m
  induction m with
  | zero => intro i σ h; omega
  | succ m ih =>
    intro i σ hM i0 i1 h1 h2
    refine zbdC (fun hb => zgoC X B zS_nilC [] [(5, [0, 1, 2, 3])] (fun m => Nat.beq m.2.2.2.2.2.2.length 15) (by decide +kernel) ?_)
    refine And.intro (fun (c1 : 72 ≤ i) => ?_) (fun (c2 : i < 72) => ?_)
    · exact hK _ h1 (fun j j0 j1 => h2 j j0 (by have j1 : j < 72 := j1; omega))
    · refine And.intro (show 0 ≤ i ∧ i < 72 from by omega) ?_
      refine And.intro (show 0 ≤ 0 ∧ 0 ≤ 9 from by omega) ?_
      refine And.intro (show -2147483648 ≤ (i + 1) ∧ (i + 1) ≤ 2147483647 from by omega) ?_
      show zGC E md72 w gm_304 5 [(0, .inr (.inl 86)), (1, .inl 0), (2, .inl (i + 1)), (3, .inl 72)] (vup σ 86 i 0) K
      exact ih (i + 1) _ (by omega) (by omega) (by omega) (fun t2 ht => (vup_fr ht).trans (h1 t2 ht)) (fun j j0 j1 => by
        by_cases e : j = i
        · rw [e]; exact vup_eq
        · exact (vup_ne 86 j (fun q => e q.2)).trans (h2 j j0 (by omega)))
set_option maxRecDepth 8192 in
theorem vk_304l88 (X : zX gKX E) (B : zB E) {σ0 : vS} (hK : ∀ σ2 : vS, (∀ t2, ¬ t2 = 88 → σ2 t2 = σ0 t2) → (∀ j : Int, 0 ≤ j → j < cln 88 → σ2 88 j = -1) → K none σ2) : ∀ (m : Nat) (i : Int) (σ : vS), 12 - i < (m : Int) → 0 ≤ i → i ≤ 12 → (∀ t2, ¬ t2 = 88 → σ t2 = σ0 t2) → (∀ j : Int, 0 ≤ j → j < i → σ 88 j = -1) → zGC E md72 w gm_304 5 [(0, .inr (.inl 88)), (1, .inl (-1)), (2, .inl i), (3, .inl 12)] σ K := by
  intro m
  induction m with
  | zero => intro i σ h; omega
  | succ m ih =>
    intro i σ hM i0 i1 h1 h2
    refine zbdC (fun hb => zgoC X B zS_nilC [] [(5, [0, 1, 2, 3])] (fun m => Nat.beq m.2.2.2.2.2.2.length 15) (by decide +kernel) ?_)
    refine And.intro (fun (c1 : 12 ≤ i) => ?_) (fun (c2 : i < 12) => ?_)
    · exact hK _ h1 (fun j j0 j1 => h2 j j0 (by have j1 : j < 12 := j1; omega))
    · refine And.intro (show 0 ≤ i ∧ i < 12 from by omega) ?_
      refine And.intro (show Int.negSucc 0 ≤ (-1) ∧ (-1) ≤ 5 from rgm (by omega)) ?_
      refine And.intro (show -2147483648 ≤ (i + 1) ∧ (i + 1) ≤ 2147483647 from by omega) ?_
      show zGC E md72 w gm_304 5 [(0, .inr (.inl 88)), (1, .inl (-1)), (2, .inl (i + 1)), (3, .inl 12)] (vup σ 88 i (-1)) K
      exact ih (i + 1) _ (by omega) (by omega) (by omega) (fun t2 ht => (vup_fr ht).trans (h1 t2 ht)) (fun j j0 j1 => by
        by_cases e : j = i
        · rw [e]; exact vup_eq
        · exact (vup_ne 88 j (fun q => e q.2)).trans (h2 j j0 (by omega)))
set_option maxRecDepth 8192 in
theorem vk_304l89 (X : zX gKX E) (B : zB E) {σ0 : vS} (hK : ∀ σ2 : vS, (∀ t2, ¬ t2 = 89 → σ2 t2 = σ0 t2) → (∀ j : Int, 0 ≤ j → j < cln 89 → σ2 89 j = -1) → K none σ2) : ∀ (m : Nat) (i : Int) (σ : vS), 6 - i < (m : Int) → 0 ≤ i → i ≤ 6 → (∀ t2, ¬ t2 = 89 → σ t2 = σ0 t2) → (∀ j : Int, 0 ≤ j → j < i → σ 89 j = -1) → zGC E md72 w gm_304 5 [(0, .inr (.inl 89)), (1, .inl (-1)), (2, .inl i), (3, .inl 6)] σ K := by
  intro m
  induction m with
  | zero => intro i σ h; omega
  | succ m ih =>
    intro i σ hM i0 i1 h1 h2
    refine zbdC (fun hb => zgoC X B zS_nilC [] [(5, [0, 1, 2, 3])] (fun m => Nat.beq m.2.2.2.2.2.2.length 15) (by decide +kernel) ?_)
    refine And.intro (fun (c1 : 6 ≤ i) => ?_) (fun (c2 : i < 6) => ?_)
    · exact hK _ h1 (fun j j0 j1 => h2 j j0 (by have j1 : j < 6 := j1; omega))
    · refine And.intro (show 0 ≤ i ∧ i < 6 from by omega) ?_
      refine And.intro (show Int.negSucc 0 ≤ (-1) ∧ (-1) ≤ 11 from rgm (by omega)) ?_
      refine And.intro (show -2147483648 ≤ (i + 1) ∧ (i + 1) ≤ 2147483647 from by omega) ?_
      show zGC E md72 w gm_304 5 [(0, .inr (.inl 89)), (1, .inl (-1)), (2, .inl (i + 1)), (3, .inl 6)] (vup σ 89 i (-1)) K
      exact ih (i + 1) _ (by omega) (by omega) (by omega) (fun t2 ht => (vup_fr ht).trans (h1 t2 ht)) (fun j j0 j1 => by
        by_cases e : j = i
        · rw [e]; exact vup_eq
        · exact (vup_ne 89 j (fun q => e q.2)).trans (h2 j j0 (by omega)))
set_option maxRecDepth 8192 in
theorem vk_304l90 (X : zX gKX E) (B : zB E) {σ0 : vS} (hK : ∀ σ2 : vS, (∀ t2, ¬ t2 = 90 → σ2 t2 = σ0 t2) → (∀ j : Int, 0 ≤ j → j < cln 90 → σ2 90 j = -1) → K none σ2) : ∀ (m : Nat) (i : Int) (σ : vS), 6 - i < (m : Int) → 0 ≤ i → i ≤ 6 → (∀ t2, ¬ t2 = 90 → σ t2 = σ0 t2) → (∀ j : Int, 0 ≤ j → j < i → σ 90 j = -1) → zGC E md72 w gm_304 5 [(0, .inr (.inl 90)), (1, .inl (-1)), (2, .inl i), (3, .inl 6)] σ K := by
  intro m
  induction m with
  | zero => intro i σ h; omega
  | succ m ih =>
    intro i σ hM i0 i1 h1 h2
    refine zbdC (fun hb => zgoC X B zS_nilC [] [(5, [0, 1, 2, 3])] (fun m => Nat.beq m.2.2.2.2.2.2.length 15) (by decide +kernel) ?_)
    refine And.intro (fun (c1 : 6 ≤ i) => ?_) (fun (c2 : i < 6) => ?_)
    · exact hK _ h1 (fun j j0 j1 => h2 j j0 (by have j1 : j < 6 := j1; omega))
    · refine And.intro (show 0 ≤ i ∧ i < 6 from by omega) ?_
      refine And.intro (show Int.negSucc 0 ≤ (-1) ∧ (-1) ≤ 5 from rgm (by omega)) ?_
      refine And.intro (show -2147483648 ≤ (i + 1) ∧ (i + 1) ≤ 2147483647 from by omega) ?_
      show zGC E md72 w gm_304 5 [(0, .inr (.inl 90)), (1, .inl (-1)), (2, .inl (i + 1)), (3, .inl 6)] (vup σ 90 i (-1)) K
      exact ih (i + 1) _ (by omega) (by omega) (by omega) (fun t2 ht => (vup_fr ht).trans (h1 t2 ht)) (fun j j0 j1 => by
        by_cases e : j = i
        · rw [e]; exact vup_eq
        · exact (vup_ne 90 j (fun q => e q.2)).trans (h2 j j0 (by omega)))
set_option maxRecDepth 8192 in
theorem vk_304l91 (X : zX gKX E) (B : zB E) {σ0 : vS} (hK : ∀ σ2 : vS, (∀ t2, ¬ t2 = 91 → σ2 t2 = σ0 t2) → (∀ j : Int, 0 ≤ j → j < cln 91 → σ2 91 j = 0) → K none σ2) : ∀ (m : Nat) (i : Int) (σ : vS), 6 - i < (m : Int) → 0 ≤ i → i ≤ 6 → (∀ t2, ¬ t2 = 91 → σ t2 = σ0 t2) → (∀ j : Int, 0 ≤ j → j < i → σ 91 j = 0) → zGC E md72 w gm_304 5 [(0, .inr (.inl 91)), (1, .inl 0), (2, .inl i), (3, .inl 6)] σ K := by
  intro m
  induction m with
  | zero => intro i σ h; omega
  | succ m ih =>
    intro i σ hM i0 i1 h1 h2
    refine zbdC (fun hb => zgoC X B zS_nilC [] [(5, [0, 1, 2, 3])] (fun m => Nat.beq m.2.2.2.2.2.2.length 15) (by decide +kernel) ?_)
    refine And.intro (fun (c1 : 6 ≤ i) => ?_) (fun (c2 : i < 6) => ?_)
    · exact hK _ h1 (fun j j0 j1 => h2 j j0 (by have j1 : j < 6 := j1; omega))
    · refine And.intro (show 0 ≤ i ∧ i < 6 from by omega) ?_
      refine And.intro (show Int.negSucc 2147483647 ≤ 0 ∧ 0 ≤ 2147483647 from rgm (by omega)) ?_
      refine And.intro (show -2147483648 ≤ (i + 1) ∧ (i + 1) ≤ 2147483647 from by omega) ?_
      show zGC E md72 w gm_304 5 [(0, .inr (.inl 91)), (1, .inl 0), (2, .inl (i + 1)), (3, .inl 6)] (vup σ 91 i 0) K
      exact ih (i + 1) _ (by omega) (by omega) (by omega) (fun t2 ht => (vup_fr ht).trans (h1 t2 ht)) (fun j j0 j1 => by
        by_cases e : j = i
        · rw [e]; exact vup_eq
        · exact (vup_ne 91 j (fun q => e q.2)).trans (h2 j j0 (by omega)))
set_option maxRecDepth 8192 in
theorem vk_304l92 (X : zX gKX E) (B : zB E) {σ0 : vS} (hK : ∀ σ2 : vS, (∀ t2, ¬ t2 = 92 → σ2 t2 = σ0 t2) → (∀ j : Int, 0 ≤ j → j < cln 92 → σ2 92 j = 0) → K none σ2) : ∀ (m : Nat) (i : Int) (σ : vS), 6 - i < (m : Int) → 0 ≤ i → i ≤ 6 → (∀ t2, ¬ t2 = 92 → σ t2 = σ0 t2) → (∀ j : Int, 0 ≤ j → j < i → σ 92 j = 0) → zGC E md72 w gm_304 5 [(0, .inr (.inl 92)), (1, .inl 0), (2, .inl i), (3, .inl 6)] σ K := by
  intro m
  induction m with
  | zero => intro i σ h; omega
  | succ m ih =>
    intro i σ hM i0 i1 h1 h2
    refine zbdC (fun hb => zgoC X B zS_nilC [] [(5, [0, 1, 2, 3])] (fun m => Nat.beq m.2.2.2.2.2.2.length 15) (by decide +kernel) ?_)
    refine And.intro (fun (c1 : 6 ≤ i) => ?_) (fun (c2 : i < 6) => ?_)
    · exact hK _ h1 (fun j j0 j1 => h2 j j0 (by have j1 : j < 6 := j1; omega))
    · refine And.intro (show 0 ≤ i ∧ i < 6 from by omega) ?_
      refine And.intro (show Int.negSucc 2147483647 ≤ 0 ∧ 0 ≤ 2147483647 from rgm (by omega)) ?_
      refine And.intro (show -2147483648 ≤ (i + 1) ∧ (i + 1) ≤ 2147483647 from by omega) ?_
      show zGC E md72 w gm_304 5 [(0, .inr (.inl 92)), (1, .inl 0), (2, .inl (i + 1)), (3, .inl 6)] (vup σ 92 i 0) K
      exact ih (i + 1) _ (by omega) (by omega) (by omega) (fun t2 ht => (vup_fr ht).trans (h1 t2 ht)) (fun j j0 j1 => by
        by_cases e : j = i
        · rw [e]; exact vup_eq
        · exact (vup_ne 92 j (fun q => e q.2)).trans (h2 j j0 (by omega)))
set_option maxRecDepth 8192 in
theorem vk_304 (X : zX gKX E) (B : zB E) : zOKC E md72 w 304 vs304 := by
  intro q hq vs σ K h
  cases (show gMT 304 = some (gm_304, 4) from rfl).symm.trans hq
  unfold vs304 at h
  split at h
  · rename_i t v
    show zGC E md72 w gm_304 0 [(0, .inr (.inl t)), (1, .inl v)] σ K
    obtain ⟨hh, hK⟩ := h
    rcases hh with ⟨rfl, rfl⟩ | ⟨rfl, rfl⟩ | ⟨rfl, rfl⟩ | ⟨rfl, rfl⟩ | ⟨rfl, rfl⟩ | ⟨rfl, rfl⟩ | ⟨rfl, rfl⟩
    · refine zbdC (fun hb => zgoC X B zS_nilC [] [(5, [0, 1, 2, 3])] (fun m => Nat.beq m.2.2.2.2.2.2.length 15) (by decide +kernel) ?_)
      show zGC E md72 w gm_304 5 [(0, .inr (.inl 79)), (1, .inl 0), (2, .inl 0), (3, .inl 3)] σ K
      exact vk_304l79 X B (σ0 := σ) hK 4 0 σ (by omega) (by omega) (by omega) (fun _ _ => rfl) (fun j j0 j1 => by omega)
    · refine zbdC (fun hb => zgoC X B zS_nilC [] [(5, [0, 1, 2, 3])] (fun m => Nat.beq m.2.2.2.2.2.2.length 15) (by decide +kernel) ?_)
      show zGC E md72 w gm_304 5 [(0, .inr (.inl 86)), (1, .inl 0), (2, .inl 0), (3, .inl 72)] σ K
      exact vk_304l86 X B (σ0 := σ) hK 73 0 σ (by omega) (by omega) (by omega) (fun _ _ => rfl) (fun j j0 j1 => by omega)
    · refine zbdC (fun hb => zgoC X B zS_nilC [] [(5, [0, 1, 2, 3])] (fun m => Nat.beq m.2.2.2.2.2.2.length 15) (by decide +kernel) ?_)
      show zGC E md72 w gm_304 5 [(0, .inr (.inl 88)), (1, .inl (-1)), (2, .inl 0), (3, .inl 12)] σ K
      exact vk_304l88 X B (σ0 := σ) hK 13 0 σ (by omega) (by omega) (by omega) (fun _ _ => rfl) (fun j j0 j1 => by omega)
    · refine zbdC (fun hb => zgoC X B zS_nilC [] [(5, [0, 1, 2, 3])] (fun m => Nat.beq m.2.2.2.2.2.2.length 15) (by decide +kernel) ?_)
      show zGC E md72 w gm_304 5 [(0, .inr (.inl 89)), (1, .inl (-1)), (2, .inl 0), (3, .inl 6)] σ K
      exact vk_304l89 X B (σ0 := σ) hK 7 0 σ (by omega) (by omega) (by omega) (fun _ _ => rfl) (fun j j0 j1 => by omega)
    · refine zbdC (fun hb => zgoC X B zS_nilC [] [(5, [0, 1, 2, 3])] (fun m => Nat.beq m.2.2.2.2.2.2.length 15) (by decide +kernel) ?_)
      show zGC E md72 w gm_304 5 [(0, .inr (.inl 90)), (1, .inl (-1)), (2, .inl 0), (3, .inl 6)] σ K
      exact vk_304l90 X B (σ0 := σ) hK 7 0 σ (by omega) (by omega) (by omega) (fun _ _ => rfl) (fun j j0 j1 => by omega)
    · refine zbdC (fun hb => zgoC X B zS_nilC [] [(5, [0, 1, 2, 3])] (fun m => Nat.beq m.2.2.2.2.2.2.length 15) (by decide +kernel) ?_)
      show zGC E md72 w gm_304 5 [(0, .inr (.inl 91)), (1, .inl 0), (2, .inl 0), (3, .inl 6)] σ K
      exact vk_304l91 X B (σ0 := σ) hK 7 0 σ (by omega) (by omega) (by omega) (fun _ _ => rfl) (fun j j0 j1 => by omega)
    · refine zbdC (fun hb => zgoC X B zS_nilC [] [(5, [0, 1, 2, 3])] (fun m => Nat.beq m.2.2.2.2.2.2.length 15) (by decide +kernel) ?_)
      show zGC E md72 w gm_304 5 [(0, .inr (.inl 92)), (1, .inl 0), (2, .inl 0), (3, .inl 6)] σ K
      exact vk_304l92 X B (σ0 := σ) hK 7 0 σ (by omega) (by omega) (by omega) (fun _ _ => rfl) (fun j j0 j1 => by omega)
  · exact absurd h id
end ZV2
