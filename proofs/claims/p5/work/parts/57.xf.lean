/-! THE CLASS READS A BOOK: readLine -/
noncomputable section
def mdK : aMd := md72 ++ [(0, 4, 5), (13, 0, 40), (14, 0, 40), (15, 0, 40), (16, 0, 40)]
/-- all is as it was, but the tape and the BOOK -/
def cBf (σ σ2 : vS) : Prop := ∀ t : Nat, ¬ t = 7 → ¬ (t = 0 ∨ (13 ≤ t ∧ t ≤ 16)) → σ2 t = σ t
/-- a row of the class's that can be lived -/
def cRow (σ : vS) (i : Int) : Prop := (σ 13 i = 9 ∧ (0 ≤ σ 14 i ∧ σ 14 i ≤ 5) ∧ 0 ≤ σ 15 i ∧ σ 15 i ≤ 11) ∨ (σ 13 i = 10 ∧ (0 ≤ σ 14 i ∧ σ 14 i ≤ 5) ∧ (0 ≤ σ 15 i ∧ σ 15 i ≤ 11) ∧ 0 ≤ σ 16 i ∧ σ 16 i ≤ 5) ∨ ((11 ≤ σ 13 i ∧ σ 13 i ≤ 12) ∧ (0 ≤ σ 14 i ∧ σ 14 i ≤ 5) ∧ 0 ≤ σ 15 i ∧ σ 15 i ≤ 5) ∨ (σ 13 i = 13 ∧ 0 ≤ σ 14 i ∧ σ 14 i ≤ 5) ∨ (σ 13 i = 14 ∧ (0 ≤ σ 14 i ∧ σ 14 i ≤ 5) ∧ 0 ≤ σ 15 i ∧ σ 15 i ≤ 5) ∨ ((15 ≤ σ 13 i ∧ σ 13 i ≤ 16) ∧ σ 14 i = -1 ∧ 0 ≤ σ 15 i ∧ σ 15 i ≤ 19) ∨ (σ 13 i = 17 ∧ σ 14 i = -1 ∧ 0 ≤ σ 15 i ∧ σ 15 i ≤ 11) ∨ (σ 13 i = 18 ∧ σ 14 i = -1 ∧ 1 ≤ σ 15 i ∧ σ 15 i ≤ 60)
def vt5 : vSpL := fun vs σ K => match vs with
  | [.inr (.inl 0), .inr (.inl 7), .inr (.inl 93)] => ∃ (x : qX) (p : Int) (S : qS), (cT x p σ ∧ cSn S σ) ∧ (¬ (qLn x S.2.2 (S.2.1 1) (S.2.1 2) (σ 0 4) p).1 = 0 → ∀ σ2 : vS, cFl x (qLn x S.2.2 (S.2.1 1) (S.2.1 2) (σ 0 4) p).1 (qLn x S.2.2 (S.2.1 1) (S.2.1 2) (σ 0 4) p).2 σ2 → cBf σ σ2 → σ2 0 4 = σ 0 4 → (∀ t : Nat, 13 ≤ t → t ≤ 16 → ∀ j : Int, j < σ 0 4 → σ2 t j = σ t j) → K (some (.inl 0)) σ2) ∧ ((qLn x S.2.2 (S.2.1 1) (S.2.1 2) (σ 0 4) p).1 = 0 → (qsn x (qLn x S.2.2 (S.2.1 1) (S.2.1 2) (σ 0 4) p).2 59 = false → ∀ σ2 : vS, cFl x 1 (qLn x S.2.2 (S.2.1 1) (S.2.1 2) (σ 0 4) p).2 σ2 → cBf σ σ2 → σ2 0 4 = σ 0 4 → (∀ t : Nat, 13 ≤ t → t ≤ 16 → ∀ j : Int, j < σ 0 4 → σ2 t j = σ t j) → K (some (.inl 0)) σ2) ∧ (qsn x (qLn x S.2.2 (S.2.1 1) (S.2.1 2) (σ 0 4) p).2 59 = true → ∀ σ2 : vS, cT x (qnx x.1 x.2.1 (qLn x S.2.2 (S.2.1 1) (S.2.1 2) (σ 0 4) p).2) σ2 → cBf σ σ2 → σ2 0 4 = σ 0 4 + 1 → (∀ t : Nat, 13 ≤ t → t ≤ 16 → ∀ j : Int, j < σ 0 4 → σ2 t j = σ t j) → cRow σ2 (σ 0 4) → K (some (.inl 1)) σ2))
  | _ => False
end
section CBK
variable {x : qX} {p : Int} {σ σ2 σ3 : vS} {S : qS}
theorem cT_b {t : Nat} {i v : Int} (h : cT x p σ) (ht : ¬ t = 7 ∧ ¬ t = 34 ∧ ¬ t = 35) : cT x p (vup σ t i v) := by
  have e7 : vup σ t i v 7 = σ 7 := vup_fr (fun q => ht.1 q.symm)
  have e34 : vup σ t i v 34 = σ 34 := vup_fr (fun q => ht.2.1 q.symm)
  have e35 : vup σ t i v 35 = σ 35 := vup_fr (fun q => ht.2.2 q.symm)
  have ec : ctx (vup σ t i v) = ctx σ := by unfold ctx; rw [e34]
  unfold cT cTB cTk at h ⊢
  rw [e7, e35, ec]
  exact h
theorem cBf_refl : cBf σ σ := fun _ _ _ => rfl
theorem cBf_cg (h : cBf σ σ2) (g : cg σ2 σ3) : cBf σ σ3 := fun t a b => (g.1 t a).trans (h t a b)
theorem cBf_up {i v : Int} {t : Nat} (ht : t = 0 ∨ (13 ≤ t ∧ t ≤ 16)) (h : cBf σ σ2) : cBf σ (vup σ2 t i v) := fun s a b => (vup_fr (fun q => by subst q; exact b ht)).trans (h s a b)
theorem cSn_b (h : cSn S σ) (g : cBf σ σ2) : cSn S σ2 := by
  unfold cSn cRe at h ⊢
  rw [g 94 (by decide) (by decide), g 95 (by decide) (by decide), g 96 (by decide) (by decide), g 97 (by decide) (by decide)]
  exact h
theorem ful_cg {f g : Int → Int} {i j v : Int} (h : f = g) (hi : i = j) : ful f i v = ful g j v := by rw [h, hi]
theorem cT_kb (h : cT x p σ) {r : Int} (t : (σ 7 4 = 2 ∧ r = σ 7 6) ∨ (¬ σ 7 4 = 2 ∧ r = -1)) : -1 ≤ r ∧ r ≤ 29 := by
  rcases h.2.1.2 with ⟨a, b⟩ | ⟨a, b⟩ | ⟨a, ⟨b, c, d⟩ | ⟨b, c, d⟩ | ⟨b, c, d, ⟨e1, e2⟩ | ⟨e1, e3, e4, e5⟩⟩⟩
  all_goals omega
theorem cT_ev (h : cT x p σ) : (σ 7 4 = 2 ∧ 15 ≤ σ 7 6 ∧ σ 7 6 ≤ 18 → qVe x p = σ 7 6 - 9) ∧ (¬ (σ 7 4 = 2 ∧ 15 ≤ σ 7 6 ∧ σ 7 6 ≤ 18) → qVe x p = -1) := by
  have k15 := cT_kws h (j := 15) (by decide)
  have k16 := cT_kws h (j := 16) (by decide)
  have k17 := cT_kws h (j := 17) (by decide)
  have k18 := cT_kws h (j := 18) (by decide)
  unfold qVe
  simp only [k15, k16, k17, k18]
  constructor
  · intro q
    repeat' split
    all_goals omega
  · intro q
    repeat' split
    all_goals omega
theorem cT_de (h : cT x p σ) : (σ 7 4 = 2 ∧ 9 ≤ σ 7 6 ∧ σ 7 6 ≤ 12 → qVd x p = σ 7 6 - 9) ∧ (σ 7 4 = 2 ∧ σ 7 6 = 13 → qVd x p = 5) ∧ (σ 7 4 = 2 ∧ σ 7 6 = 14 → qVd x p = 4) ∧ (¬ (σ 7 4 = 2 ∧ 9 ≤ σ 7 6 ∧ σ 7 6 ≤ 14) → qVd x p = -1) := by
  have k9 := cT_kws h (j := 9) (by decide)
  have k10 := cT_kws h (j := 10) (by decide)
  have k11 := cT_kws h (j := 11) (by decide)
  have k12 := cT_kws h (j := 12) (by decide)
  have k13 := cT_kws h (j := 13) (by decide)
  have k14 := cT_kws h (j := 14) (by decide)
  unfold qVd
  simp only [k9, k10, k11, k12, k13, k14]
  refine ⟨fun q => ?_, fun q => ?_, fun q => ?_, fun q => ?_⟩
  all_goals (repeat' split)
  all_goals omega
theorem cT_nv (h : cT x p σ) (h4 : σ 7 4 = 4) : qkd x.1 x.2.1 x.2.2 p = 2 ∧ σ 7 6 = qvl x.1 x.2.1 p := by
  have k := (cT_nks h).2.1.mpr h4
  rcases h.2.1.2 with ⟨a, b⟩ | ⟨a, b⟩ | ⟨a, ⟨b, c, d⟩ | ⟨b, c, d⟩ | ⟨b, c, d, ⟨e1, e2⟩ | ⟨e1, e3, e4, e5⟩⟩⟩
  · omega
  · omega
  · omega
  · exact ⟨b, d⟩
  · omega
  · omega
theorem qNu_lo {v : Int} (hv : ¬ v = 9) : (¬ qkd x.1 x.2.1 x.2.2 p = 2 → qNu x v p = (1, p)) ∧ (qkd x.1 x.2.1 x.2.2 p = 2 → ¬ (0 ≤ qvl x.1 x.2.1 p ∧ qvl x.1 x.2.1 p ≤ 19) → qNu x v p = (2, p)) ∧ (qkd x.1 x.2.1 x.2.2 p = 2 → (0 ≤ qvl x.1 x.2.1 p ∧ qvl x.1 x.2.1 p ≤ 19) → qNu x v p = (0, qnx x.1 x.2.1 p)) :=
  ⟨fun h => qNu_1 h, fun h h2 => qNu_2 h (by rw [if_neg hv, if_neg hv]; exact h2), fun h h2 => qNu_s h (by rw [if_neg hv, if_neg hv]; exact h2)⟩
theorem qNu_hi {v : Int} (hv : v = 9) : (¬ qkd x.1 x.2.1 x.2.2 p = 2 → qNu x v p = (1, p)) ∧ (qkd x.1 x.2.1 x.2.2 p = 2 → ¬ (1 ≤ qvl x.1 x.2.1 p ∧ qvl x.1 x.2.1 p ≤ 60) → qNu x v p = (2, p)) ∧ (qkd x.1 x.2.1 x.2.2 p = 2 → (1 ≤ qvl x.1 x.2.1 p ∧ qvl x.1 x.2.1 p ≤ 60) → qNu x v p = (0, qnx x.1 x.2.1 p)) :=
  ⟨fun h => qNu_1 h, fun h h2 => qNu_2 h (by rw [if_pos hv, if_pos hv]; exact h2), fun h h2 => qNu_s h (by rw [if_pos hv, if_pos hv]; exact h2)⟩
theorem cT_qm1 {nm : Int → Int} {a m : Int} (h : cT x p σ) (h3 : ¬ σ 7 4 = 3) : qlf x nm a m p = -1 := by
  rw [qlf_eq]
  exact if_neg (fun q => h3 ((cT_k h).2.mpr q))
theorem cRow_of {n v a b c : Int} (h0 : σ 13 n = v) (h1 : σ 14 n = a) (h2 : σ 15 n = b) (h3 : σ 16 n = c) (h : (v = 9 ∧ (0 ≤ a ∧ a ≤ 5) ∧ 0 ≤ b ∧ b ≤ 11) ∨ (v = 10 ∧ (0 ≤ a ∧ a ≤ 5) ∧ (0 ≤ b ∧ b ≤ 11) ∧ 0 ≤ c ∧ c ≤ 5) ∨ ((11 ≤ v ∧ v ≤ 12) ∧ (0 ≤ a ∧ a ≤ 5) ∧ 0 ≤ b ∧ b ≤ 5) ∨ (v = 13 ∧ 0 ≤ a ∧ a ≤ 5) ∨ (v = 14 ∧ (0 ≤ a ∧ a ≤ 5) ∧ 0 ≤ b ∧ b ≤ 5) ∨ ((15 ≤ v ∧ v ≤ 16) ∧ a = -1 ∧ 0 ≤ b ∧ b ≤ 19) ∨ (v = 17 ∧ a = -1 ∧ 0 ≤ b ∧ b ≤ 11) ∨ (v = 18 ∧ a = -1 ∧ 1 ≤ b ∧ b ≤ 60)) : cRow σ n := by
  unfold cRow
  rw [h0, h1, h2, h3]
  exact h
theorem qLn_w (hm : 0 ≤ S.2.1 1) {n : Int} (hv : qVe x p = -1) (ho : qlf x S.2.2 6 (S.2.1 1) p = -1) : qLn x S.2.2 (S.2.1 1) (S.2.1 2) n p = (1, p) := by
  have e := qLn_o (m2 := S.2.1 2) (n := n) hv (show qlf x S.2.2 6 (S.2.1 1) p < 0 by omega) hm
  rw [ho] at e
  exact e
end CBK
