/-! BOTH READ THE SAME TOKEN -/
noncomputable section
/-- the class's token, the reference's -/
def tkR (f : Int → Int) (σc σr : vS) : Prop := σc 7 5 = σr 12 12 ∧ ((σc 7 4 = 0 ∧ σr 12 11 = 0) ∨ (σc 7 4 = 1 ∧ σr 12 11 = 4) ∨ (σc 7 10 = σr 12 4 ∧ ((σc 7 4 = 5 ∧ σr 12 11 = 3 ∧ σc 7 6 = σr 12 14) ∨ (σc 7 4 = 4 ∧ σr 12 11 = 2 ∧ σc 7 6 = σr 12 14) ∨ (σr 12 11 = 1 ∧ (0 ≤ σc 7 7 ∧ σc 7 7 < 10460353203) ∧ σr 12 17 = tph 7 (σc 7 7) ∧ ckw f (σc 7 7) (σc 7 6) ∧ ((σc 7 6 = -1 ∧ σc 7 4 = 3) ∨ (¬ σc 7 6 = -1 ∧ σc 7 4 = 2))))))
end
theorem tE_cut {P : Int → Bool} {n s p : Int} (hs : s ≤ n) : (tE P s p < s → tE P n p = tE P s p) ∧ (s ≤ tE P s p → s ≤ tE P n p) := by
  obtain ⟨a1, a2, a3, a4⟩ := tE_all (P := P) (n := s) (p := p)
  obtain ⟨b1, b2, b3, b4⟩ := tE_all (P := P) (n := n) (p := p)
  constructor
  · intro h
    by_cases q : tE P n p < tE P s p
    · exact absurd ⟨by omega, a3 _ b1 q⟩ b4
    · by_cases q2 : tE P s p < tE P n p
      · exact absurd ⟨h, b3 _ a1 q2⟩ a4
      · omega
  · intro h
    by_cases q : tE P n p < s
    · exact absurd ⟨by omega, a3 _ b1 (by omega)⟩ b4
    · omega
theorem tk_same {τ f : Int → Int} {n lim s p0 : Int} {σc σr : vS} (hs : s ≤ n ∧ s ≤ lim ∧ (s = n ∨ s = lim)) (hp : p0 ≤ n) (hc : ctk τ f n lim s (tE (fun q => tbk (τ q)) s p0) σc) (hr : rtk τ n lim (tE (fun q => tbk (τ q)) n p0) σr) : tkR f σc σr := by
  obtain ⟨c1, c2⟩ := tE_cut (P := fun q => tbk (τ q)) (n := n) (s := s) (p := p0) hs.1
  obtain ⟨b1, b2, b3, b4⟩ := tE_all (P := fun q => tbk (τ q)) (n := n) (p := p0)
  have hn : tE (fun q => tbk (τ q)) n p0 ≤ n := by rcases b2 with b2 | b2 <;> omega
  generalize tE (fun q => tbk (τ q)) n p0 = br at *
  generalize tE (fun q => tbk (τ q)) s p0 = bc at *
  rcases hc with ⟨d1, d2, d3⟩ | ⟨d1, d2, d3, kc, d4, d5, d6⟩ | ⟨d1, d2, d3, d4, d5, d6⟩
  · have g := c2 d1
    rcases d3 with ⟨d3, d4⟩ | ⟨d3, d4⟩
    · rcases hr with ⟨r1, r2, r3, r4⟩ | ⟨r1, -⟩ | ⟨r1, -⟩ | ⟨r1, -⟩
      · exact ⟨by omega, Or.inr (Or.inl ⟨d4, r4⟩)⟩
      all_goals omega
    · rcases hr with ⟨r1, r2, r3, r4⟩ | ⟨r1, r2, r3, r4, -⟩ | ⟨r1, r2, -⟩ | ⟨r1, r2, -⟩
      · omega
      · exact ⟨by omega, Or.inl ⟨d4, r4⟩⟩
      all_goals omega
  · have g := c1 d1
    subst g
    rcases hr with ⟨r1, r2, r3, r4⟩ | ⟨r1, r2, r3, r4, -⟩ | ⟨r1, r2, r3, -⟩ | ⟨r1, r2, r3, r4, kr, r5, r6, r7, r8⟩
    · omega
    · omega
    · rw [d3] at r3
      cases r3
    · have ek : kc = kr := by omega
      subst ek
      refine ⟨by omega, ?_⟩
      rcases d6 with ⟨e1, e2, e3, e4, e5⟩ | ⟨e1, e2, e3, e4⟩ | ⟨e1, e2, e3⟩
      · rcases r8 with ⟨q1, q2, q3, q4⟩ | ⟨q1, q2, q3, q4⟩ | ⟨q1, -⟩
        · have hb := tc_b e1
          have hb2 : (27 : Int) ^ kc ≤ 10460353203 := by
            match kc, e2 with
            | 0, _ => decide
            | 1, _ => decide
            | 2, _ => decide
            | 3, _ => decide
            | 4, _ => decide
            | 5, _ => decide
            | 6, _ => decide
            | 7, _ => decide
            | n + 8, h => omega
          exact Or.inr (Or.inr ⟨by omega, Or.inr (Or.inr ⟨q3, by rw [e3]; omega, by rw [q4, e3, tph_tc e1 7 e2], e4, e5⟩)⟩)
        · have a := e1 0 r5
          have b := q1 0 r5
          omega
        · exact absurd ⟨e1, e2⟩ q1
      · rcases r8 with ⟨q1, q2, q3, q4⟩ | ⟨q1, q2, q3, q4⟩ | ⟨-, q1, -⟩
        · have a := e1 0 r5
          have b := q1 0 r5
          omega
        · exact Or.inr (Or.inr ⟨by omega, Or.inr (Or.inl ⟨e3, q3, by rw [e4, q4]⟩)⟩)
        · exact absurd ⟨e1, e2⟩ q1
      · rcases r8 with ⟨q1, q2, q3, q4⟩ | ⟨q1, q2, q3, q4⟩ | ⟨-, -, q1⟩
        · exact absurd ⟨q1, q2⟩ e1
        · exact absurd ⟨q1, q2⟩ e2
        · exact Or.inr (Or.inl ⟨e3, q1⟩)
  · have g := c1 d1
    subst g
    rcases hr with ⟨r1, r2, r3, r4⟩ | ⟨r1, r2, r3, r4, -⟩ | ⟨r1, r2, r3, r4, r5, r6, r7⟩ | ⟨r1, r2, r3, -⟩
    · omega
    · omega
    · refine ⟨by omega, ?_⟩
      rcases d6 with ⟨e1, e2⟩ | ⟨e1, e2⟩
      · rcases r7 with ⟨q1, q2⟩ | ⟨q1, q2⟩
        · exact Or.inr (Or.inr ⟨by omega, Or.inl ⟨e2, q2, by omega⟩⟩)
        · exact absurd e1 q1
      · rcases r7 with ⟨q1, q2⟩ | ⟨q1, q2⟩
        · exact absurd q1 e1
        · exact Or.inr (Or.inl ⟨e2, q2⟩)
    · rw [d3] at r3
      cases r3
