/-! TOKENS, as functions of the place where the blanks begin. -/
noncomputable section
def qB (τ : Int → Int) (n p : Int) : Int := tE (fun q => tbk (τ q)) n p
def qE (τ : Int → Int) (n b : Int) : Int := tE (fun q => tal (τ q)) n b
def qK (τ : Int → Int) (n b : Int) : Nat := (qE τ n b - b).toNat
def qls (τ : Int → Int) (b : Int) (k : Nat) : Bool := (List.range k).all fun j => tsm (τ (b + (j : Int)))
def qds (τ : Int → Int) (b : Int) (k : Nat) : Bool := (List.range k).all fun j => tdg (τ (b + (j : Int)))
def qsg (c : Int) : Bool := decide (c = 59) || (decide (c = 40) || (decide (c = 41) || (decide (60 ≤ c) && decide (c ≤ 62))))
/-- the kind: 0 the end, 1 a WORD, 2 a NUMBER, 3 a sign, 4 no TOKEN -/
def qkd (τ : Int → Int) (n lim p : Int) : Int := if lim < n ∧ lim ≤ qB τ n p then 4 else if n ≤ qB τ n p then 0 else if tal (τ (qB τ n p)) = true then (if qls τ (qB τ n p) (qK τ n (qB τ n p)) = true ∧ qK τ n (qB τ n p) ≤ 7 then 1 else if qds τ (qB τ n p) (qK τ n (qB τ n p)) = true ∧ qK τ n (qB τ n p) ≤ 2 then 2 else 4) else if qsg (τ (qB τ n p)) = true then 3 else 4
/-- where it begins, where what is behind it begins -/
def qat (τ : Int → Int) (n lim p : Int) : Int := if lim < n ∧ lim ≤ qB τ n p then lim else qB τ n p
def qnx (τ : Int → Int) (n p : Int) : Int := if n ≤ qB τ n p then qB τ n p else if tal (τ (qB τ n p)) = true then qE τ n (qB τ n p) else qB τ n p + 1
/-- a NUMBER, a sign, a WORD -/
def qvl (τ : Int → Int) (n p : Int) : Int := if tal (τ (qB τ n p)) = true then tn τ (qB τ n p) (qK τ n (qB τ n p)) else τ (qB τ n p)
def qwd (τ : Int → Int) (n p : Int) : Int := tw τ (qB τ n p) (qK τ n (qB τ n p))
def qσ (τ : Int → Int) (n lim p : Int) : vS := fun _ i => if i = 11 then qkd τ n lim p else if i = 12 then qat τ n lim p else if i = 4 then qnx τ n p else if i = 14 then qvl τ n p else if i = 17 then qwd τ n p else 0
/-- the reference's token, the class's -/
def qTr (τ : Int → Int) (n lim p : Int) (σ : vS) : Prop := σ 12 11 = qkd τ n lim p ∧ σ 12 12 = qat τ n lim p ∧ (¬ qkd τ n lim p = 4 → σ 12 4 = qnx τ n p) ∧ ((qkd τ n lim p = 2 ∨ qkd τ n lim p = 3) → σ 12 14 = qvl τ n p) ∧ (qkd τ n lim p = 1 → σ 12 17 = qwd τ n p)
def qTc (f τ : Int → Int) (n lim p : Int) (σ : vS) : Prop := σ 7 5 = qat τ n lim p ∧ ((qkd τ n lim p = 0 ∧ σ 7 4 = 0) ∨ (qkd τ n lim p = 4 ∧ σ 7 4 = 1) ∨ (σ 7 10 = qnx τ n p ∧ ((qkd τ n lim p = 3 ∧ σ 7 4 = 5 ∧ σ 7 6 = qvl τ n p) ∨ (qkd τ n lim p = 2 ∧ σ 7 4 = 4 ∧ σ 7 6 = qvl τ n p) ∨ (qkd τ n lim p = 1 ∧ (0 ≤ σ 7 7 ∧ σ 7 7 < 10460353203) ∧ qwd τ n p = tph 7 (σ 7 7) ∧ ckw f (σ 7 7) (σ 7 6) ∧ ((σ 7 6 = -1 ∧ σ 7 4 = 3) ∨ (¬ σ 7 6 = -1 ∧ σ 7 4 = 2))))))
end
theorem qls_iff {τ : Int → Int} {b : Int} {k : Nat} : qls τ b k = true ↔ tls τ b k := by
  unfold qls tls
  rw [List.all_eq_true]
  exact ⟨fun h j hj => tsm_iff.mp (h j (List.mem_range.mpr hj)), fun h j hj => tsm_iff.mpr (h j (List.mem_range.mp hj))⟩
theorem qds_iff {τ : Int → Int} {b : Int} {k : Nat} : qds τ b k = true ↔ tds τ b k := by
  unfold qds tds
  rw [List.all_eq_true]
  exact ⟨fun h j hj => tdg_iff.mp (h j (List.mem_range.mpr hj)), fun h j hj => tdg_iff.mpr (h j (List.mem_range.mp hj))⟩
theorem qsg_iff {c : Int} : qsg c = true ↔ tsg c := by
  unfold qsg tsg
  simp only [Bool.or_eq_true, Bool.and_eq_true, decide_eq_true_iff]
theorem qB_bd {τ : Int → Int} {n p : Int} (hp : p ≤ n) : p ≤ qB τ n p ∧ qB τ n p ≤ n := by
  obtain ⟨b1, b2, -, -⟩ := tE_all (P := fun q => tbk (τ q)) (n := n) (p := p)
  unfold qB
  exact ⟨b1, by rcases b2 with b2 | b2 <;> omega⟩
/-- what skip makes is just this -/
theorem q_rtk {τ : Int → Int} {n lim p : Int} {σ : vS} (h : rtk τ n lim (qB τ n p) σ) : qTr τ n lim p σ := by
  unfold qTr
  rcases h with ⟨r1, r2, r3, r4⟩ | ⟨r1, r2, r3, r4, r5⟩ | ⟨r1, r2, r3, r4, r5, r6, r7⟩ | ⟨r1, r2, r3, r4, k, r5, r6, r7, r8⟩
  · have e : qkd τ n lim p = 4 := if_pos ⟨r1, r2⟩
    have e2 : qat τ n lim p = lim := if_pos ⟨r1, r2⟩
    exact ⟨r4.trans e.symm, r3.trans e2.symm, fun q => absurd e q, fun q => by omega, fun q => by omega⟩
  · have e : qkd τ n lim p = 0 := (if_neg r1).trans (if_pos r2)
    have e2 : qat τ n lim p = qB τ n p := if_neg r1
    have e3 : qnx τ n p = qB τ n p := if_pos r2
    exact ⟨r4.trans e.symm, r3.trans e2.symm, fun _ => r5.trans e3.symm, fun q => by omega, fun q => by omega⟩
  · have r3' : ¬ tal (τ (qB τ n p)) = true := by rw [r3]; exact Bool.false_ne_true
    have e2 : qat τ n lim p = qB τ n p := if_neg r1
    have e3 : qnx τ n p = qB τ n p + 1 := (if_neg (by omega)).trans (if_neg r3')
    have e4 : qvl τ n p = τ (qB τ n p) := if_neg r3'
    rcases r7 with ⟨s1, s2⟩ | ⟨s1, s2⟩
    · have e : qkd τ n lim p = 3 := (if_neg r1).trans ((if_neg (by omega)).trans ((if_neg r3').trans (if_pos (qsg_iff.mpr s1))))
      exact ⟨s2.trans e.symm, r4.trans e2.symm, fun _ => r5.trans e3.symm, fun _ => r6.trans e4.symm, fun q => by omega⟩
    · have e : qkd τ n lim p = 4 := (if_neg r1).trans ((if_neg (by omega)).trans ((if_neg r3').trans (if_neg (fun q => s1 (qsg_iff.mp q)))))
      exact ⟨s2.trans e.symm, r4.trans e2.symm, fun _ => r5.trans e3.symm, fun _ => r6.trans e4.symm, fun q => by omega⟩
  · have e2 : qat τ n lim p = qB τ n p := if_neg r1
    have r7' : qB τ n p + (k : Int) = qE τ n (qB τ n p) := r7
    have e3 : qnx τ n p = qE τ n (qB τ n p) := (if_neg (by omega)).trans (if_pos r3)
    have ek : qK τ n (qB τ n p) = k := by unfold qK; omega
    have e4 : qvl τ n p = tn τ (qB τ n p) k := (if_pos r3).trans (by rw [ek])
    have e5 : qwd τ n p = tw τ (qB τ n p) k := by unfold qwd; rw [ek]
    have e6 : qkd τ n lim p = (if qls τ (qB τ n p) k = true ∧ k ≤ 7 then 1 else if qds τ (qB τ n p) k = true ∧ k ≤ 2 then 2 else 4) := by
      refine (if_neg r1).trans ((if_neg (by omega)).trans ((if_pos r3).trans ?_))
      rw [ek]
    rcases r8 with ⟨s1, s2, s3, s4⟩ | ⟨s1, s2, s3, s4⟩ | ⟨s1, s2, s3⟩
    · have e : qkd τ n lim p = 1 := e6.trans (if_pos ⟨qls_iff.mpr s1, s2⟩)
      exact ⟨s3.trans e.symm, r4.trans e2.symm, fun _ => by rw [r6, e3]; omega, fun q => by omega, fun _ => s4.trans e5.symm⟩
    · have h0 : ¬ (qls τ (qB τ n p) k = true ∧ k ≤ 7) := fun q => by
        have a := qls_iff.mp q.1 0 r5
        have b := s1 0 r5
        omega
      have e : qkd τ n lim p = 2 := e6.trans ((if_neg h0).trans (if_pos ⟨qds_iff.mpr s1, s2⟩))
      exact ⟨s3.trans e.symm, r4.trans e2.symm, fun _ => by rw [r6, e3]; omega, fun _ => s4.trans e4.symm, fun q => by omega⟩
    · have e : qkd τ n lim p = 4 := e6.trans ((if_neg (fun q => s1 ⟨qls_iff.mp q.1, q.2⟩)).trans (if_neg (fun q => s2 ⟨qds_iff.mp q.1, q.2⟩)))
      exact ⟨s3.trans e.symm, r4.trans e2.symm, fun _ => by rw [r6, e3]; omega, fun q => by omega, fun q => by omega⟩
/-- .. and there is such a state -/
theorem q_fun {τ : Int → Int} {n lim p : Int} : rtk τ n lim (qB τ n p) (qσ τ n lim p) := by
  have c11 : qσ τ n lim p 12 11 = qkd τ n lim p := rfl
  have c12 : qσ τ n lim p 12 12 = qat τ n lim p := rfl
  have c4 : qσ τ n lim p 12 4 = qnx τ n p := rfl
  have c14 : qσ τ n lim p 12 14 = qvl τ n p := rfl
  have c17 : qσ τ n lim p 12 17 = qwd τ n p := rfl
  unfold rtk trn
  rw [c11, c12, c4, c14, c17]
  by_cases h1 : lim < n ∧ lim ≤ qB τ n p
  · exact Or.inl ⟨h1.1, h1.2, if_pos h1, if_pos h1⟩
  have e2 : qat τ n lim p = qB τ n p := if_neg h1
  by_cases h2 : n ≤ qB τ n p
  · exact Or.inr (Or.inl ⟨h1, h2, e2, (if_neg h1).trans (if_pos h2), if_pos h2⟩)
  by_cases h3 : tal (τ (qB τ n p)) = true
  · obtain ⟨b1, b2, b3, b4⟩ := tE_all (P := fun q => tal (τ q)) (n := n) (p := qB τ n p)
    have hE : qB τ n p + ((qK τ n (qB τ n p) : Nat) : Int) = qE τ n (qB τ n p) := by
      have b1 : qB τ n p ≤ qE τ n (qB τ n p) := b1
      unfold qK
      omega
    have hk : 0 < qK τ n (qB τ n p) := by
      by_cases q : qE τ n (qB τ n p) = qB τ n p
      · refine absurd ⟨?_, ?_⟩ b4
        · show qE τ n (qB τ n p) < n
          omega
        · show tal (τ (qE τ n (qB τ n p))) = true
          rw [q]; exact h3
      · omega
    refine Or.inr (Or.inr (Or.inr ⟨h1, by omega, h3, e2, qK τ n (qB τ n p), hk, ((if_neg h2).trans (if_pos h3)).trans hE.symm, hE, ?_⟩))
    have e6 : qkd τ n lim p = (if qls τ (qB τ n p) (qK τ n (qB τ n p)) = true ∧ qK τ n (qB τ n p) ≤ 7 then 1 else if qds τ (qB τ n p) (qK τ n (qB τ n p)) = true ∧ qK τ n (qB τ n p) ≤ 2 then 2 else 4) := (if_neg h1).trans ((if_neg h2).trans (if_pos h3))
    by_cases h4 : qls τ (qB τ n p) (qK τ n (qB τ n p)) = true ∧ qK τ n (qB τ n p) ≤ 7
    · exact Or.inl ⟨qls_iff.mp h4.1, h4.2, e6.trans (if_pos h4), rfl⟩
    by_cases h5 : qds τ (qB τ n p) (qK τ n (qB τ n p)) = true ∧ qK τ n (qB τ n p) ≤ 2
    · exact Or.inr (Or.inl ⟨qds_iff.mp h5.1, h5.2, e6.trans ((if_neg h4).trans (if_pos h5)), if_pos h3⟩)
    · exact Or.inr (Or.inr ⟨fun q => h4 ⟨qls_iff.mpr q.1, q.2⟩, fun q => h5 ⟨qds_iff.mpr q.1, q.2⟩, e6.trans ((if_neg h4).trans (if_neg h5))⟩)
  · have h3' : tal (τ (qB τ n p)) = false := Bool.eq_false_iff.mpr h3
    refine Or.inr (Or.inr (Or.inl ⟨h1, by omega, h3', e2, (if_neg h2).trans (if_neg h3), if_neg h3, ?_⟩))
    by_cases h6 : qsg (τ (qB τ n p)) = true
    · exact Or.inl ⟨qsg_iff.mp h6, (if_neg h1).trans ((if_neg h2).trans ((if_neg h3).trans (if_pos h6)))⟩
    · exact Or.inr ⟨fun q => h6 (qsg_iff.mpr q), (if_neg h1).trans ((if_neg h2).trans ((if_neg h3).trans (if_neg h6)))⟩
theorem q_ctk {τ f : Int → Int} {n lim s p : Int} {σ : vS} (hs : s ≤ n ∧ s ≤ lim ∧ (s = n ∨ s = lim)) (hp : p ≤ n) (h : ctk τ f n lim s (tE (fun q => tbk (τ q)) s p) σ) : qTc f τ n lim p σ := by
  have r : tkR f σ (qσ τ n lim p) := tk_same hs hp h q_fun
  obtain ⟨r1, r2⟩ := r
  refine ⟨r1, ?_⟩
  rcases r2 with ⟨a, b⟩ | ⟨a, b⟩ | ⟨a, ⟨b, c, d⟩ | ⟨b, c, d⟩ | ⟨b, c, d, e, g⟩⟩
  · exact Or.inl ⟨b, a⟩
  · exact Or.inr (Or.inl ⟨b, a⟩)
  · exact Or.inr (Or.inr ⟨a, Or.inl ⟨c, b, d⟩⟩)
  · exact Or.inr (Or.inr ⟨a, Or.inr (Or.inl ⟨c, b, d⟩)⟩)
  · exact Or.inr (Or.inr ⟨a, Or.inr (Or.inr ⟨b, c, d, e, g⟩)⟩)
/-- where tokens are -/
theorem q_bd {τ : Int → Int} {n lim p : Int} (h0 : 0 ≤ p) (hp : p ≤ n) (hl : 0 ≤ lim) : (0 ≤ qat τ n lim p ∧ qat τ n lim p ≤ lim) ∧ ((¬ qkd τ n lim p = 0 ∧ ¬ qkd τ n lim p = 4) → p + 1 ≤ qnx τ n p ∧ qnx τ n p ≤ n ∧ p < lim) ∧ (0 ≤ qnx τ n p ∧ qnx τ n p ≤ n) := by
  obtain ⟨g1, g2⟩ := qB_bd (τ := τ) hp
  obtain ⟨b1, b2, b3, b4⟩ := tE_all (P := fun q => tal (τ q)) (n := n) (p := qB τ n p)
  have b1 : qB τ n p ≤ qE τ n (qB τ n p) := b1
  have b2 : qE τ n (qB τ n p) = qB τ n p ∨ qE τ n (qB τ n p) ≤ n := b2
  have hnx : (¬ n ≤ qB τ n p → qB τ n p + 1 ≤ qnx τ n p) ∧ qnx τ n p ≤ n ∧ 0 ≤ qnx τ n p := by
    unfold qnx
    by_cases h2 : n ≤ qB τ n p
    · rw [if_pos h2]
      omega
    · rw [if_neg h2]
      by_cases h3 : tal (τ (qB τ n p)) = true
      · rw [if_pos h3]
        have : ¬ qE τ n (qB τ n p) = qB τ n p := fun q => b4 ⟨by show qE τ n (qB τ n p) < n; omega, by show tal (τ (qE τ n (qB τ n p))) = true; rw [q]; exact h3⟩
        omega
      · rw [if_neg h3]
        omega
  refine ⟨?_, fun hk => ?_, hnx.2.2, hnx.2.1⟩
  · unfold qat
    by_cases h1 : lim < n ∧ lim ≤ qB τ n p
    · rw [if_pos h1]; omega
    · rw [if_neg h1]; omega
  · have h1 : ¬ (lim < n ∧ lim ≤ qB τ n p) := fun q => hk.2 (if_pos q)
    have h2 : ¬ n ≤ qB τ n p := fun q => hk.1 ((if_neg h1).trans (if_pos q))
    have := hnx.1 h2
    omega
theorem q_kd {τ : Int → Int} {n lim p : Int} : 0 ≤ qkd τ n lim p ∧ qkd τ n lim p ≤ 4 := by
  unfold qkd
  split
  · omega
  · split
    · omega
    · split
      · split
        · omega
        · split <;> omega
      · split <;> omega
theorem q_vl {τ : Int → Int} {n lim p : Int} (h8 : ∀ q, 0 ≤ τ q ∧ τ q ≤ 255) (h : qkd τ n lim p = 2 ∨ qkd τ n lim p = 3) : 0 ≤ qvl τ n p ∧ qvl τ n p ≤ 255 := by
  have r := q_fun (τ := τ) (n := n) (lim := lim) (p := p)
  have c11 : qσ τ n lim p 12 11 = qkd τ n lim p := rfl
  have c14 : qσ τ n lim p 12 14 = qvl τ n p := rfl
  rcases r with ⟨r1, r2, r3, r4⟩ | ⟨r1, r2, r3, r4, r5⟩ | ⟨r1, r2, r3, r4, r5, r6, r7⟩ | ⟨r1, r2, r3, r4, k, r5, r6, r7, r8⟩
  · rw [c11] at r4; omega
  · rw [c11] at r4; omega
  · rw [c14] at r6; rw [r6]; exact h8 _
  · rcases r8 with ⟨s1, s2, s3, s4⟩ | ⟨s1, s2, s3, s4⟩ | ⟨s1, s2, s3⟩
    · rw [c11] at s3; omega
    · rw [c14] at s4
      rw [s4]
      have hk : k = 1 ∨ k = 2 := by omega
      rcases hk with rfl | rfl
      · have := s1 0 (by decide)
        show 0 ≤ 10 * 0 + τ (qB τ n p + ((0 : Nat) : Int)) - 48 ∧ 10 * 0 + τ (qB τ n p + ((0 : Nat) : Int)) - 48 ≤ 255
        omega
      · have a := s1 0 (by decide)
        have b := s1 1 (by decide)
        show 0 ≤ 10 * (10 * 0 + τ (qB τ n p + ((0 : Nat) : Int)) - 48) + τ (qB τ n p + ((1 : Nat) : Int)) - 48 ∧ 10 * (10 * 0 + τ (qB τ n p + ((0 : Nat) : Int)) - 48) + τ (qB τ n p + ((1 : Nat) : Int)) - 48 ≤ 255
        omega
    · rw [c11] at s3; omega
