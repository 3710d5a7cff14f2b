/-! A LINE leaves what there may be of each, and goes ahead. -/
theorem qnx_ge {τ : Int → Int} {n p : Int} (hp : p ≤ n) : p ≤ qnx τ n p := by
  obtain ⟨g1, g2⟩ := qB_bd (τ := τ) hp
  obtain ⟨b1, -, -, -⟩ := tE_all (P := fun q => tal (τ q)) (n := n) (p := qB τ n p)
  have b1 : qB τ n p ≤ qE τ n (qB τ n p) := b1
  unfold qnx
  split
  · exact g1
  · split <;> omega
/-- from a state on: within bounds, not behind it -/
def qOk (x : qX) (p : Int) (S : qS) : Prop := qSb x S ∧ p ≤ S.1
theorem qOk_a {x : qX} {p : Int} {S : qS} (hl : 0 ≤ x.2.2) (h : qOk x p S) : qOk x p (qadv x S) := ⟨qSb_a h.1 hl, Int.le_trans h.2 (qnx_ge h.1.1.2)⟩
theorem qbd_0 {r : qR} {c : qS → qR} (h : (qbd r c).1 = 0) : r.1 = 0 ∧ (c r.2).1 = 0 ∧ qbd r c = c r.2 := by
  unfold qbd at h ⊢
  by_cases h1 : r.1 = 0
  · rw [if_pos h1] at h ⊢
    exact ⟨h1, h, rfl⟩
  · rw [if_neg h1] at h
    exact absurd h h1
theorem qtn_0 {x : qX} {a m : Int} {S : qS} {c : Int → qS → qR} (hm : 0 ≤ m) (h : (qtn x a m S c).1 = 0) : 0 ≤ qlk x a m S ∧ qlk x a m S < m ∧ qtn x a m S c = c (qlk x a m S) S := by
  by_cases h1 : qlk x a m S < 0
  · rw [qtn_f h1] at h
    have h : -(qlk x a m S) = 0 := h
    omega
  · exact ⟨by omega, qlk_b hm, if_neg h1⟩
theorem qup_le {f : Int → Int} {i v lo hi : Int} {j : Int} (h : lo ≤ f j ∧ f j ≤ hi) (hv : j = i → lo ≤ v ∧ v ≤ hi) : lo ≤ qup f i v j ∧ qup f i v j ≤ hi := by
  unfold qup
  by_cases e : j = i
  · rw [if_pos e]; exact hv e
  · rw [if_neg e]; exact h
theorem qup_o {f : Int → Int} {i v j : Int} (h : ¬ j = i) : qup f i v j = f j := if_neg h
/-- a cell behind the counts and the passages -/
theorem qOk_st {x : qX} {p i v : Int} {S : qS} (h : qOk x p S) (hi : (89 ≤ i ∧ i < 95 ∧ 0 ≤ v ∧ v ≤ 12) ∨ (95 ≤ i ∧ i < 101) ∨ (101 ≤ i ∧ i < 107 ∧ 0 ≤ v ∧ v ≤ 6) ∨ (107 ≤ i ∧ i < 179 ∧ 0 ≤ v ∧ v ≤ 9)) : qOk x p (qst i v S) := by
  obtain ⟨⟨h1, h2, h3, h4, h5, h6, h7, h8, h9⟩, hp⟩ := h
  have e : ∀ j, j < 89 → qup S.2.1 i v j = S.2.1 j := fun j hj => qup_o (by omega)
  refine ⟨⟨h1, ?_, ?_, ?_, ?_, ?_, fun j j0 j1 => ?_, fun j j0 j1 => ⟨?_, ?_⟩, fun j j0 j1 => ?_⟩, hp⟩
  · show 0 ≤ qup S.2.1 i v 0 ∧ qup S.2.1 i v 0 ≤ 6
    rw [e 0 (by omega)]; exact h2
  · show 0 ≤ qup S.2.1 i v 1 ∧ qup S.2.1 i v 1 ≤ 6
    rw [e 1 (by omega)]; exact h3
  · show 0 ≤ qup S.2.1 i v 2 ∧ qup S.2.1 i v 2 ≤ 12
    rw [e 2 (by omega)]; exact h4
  · show 0 ≤ qup S.2.1 i v 3 ∧ qup S.2.1 i v 3 ≤ 20
    rw [e 3 (by omega)]; exact h5
  · show 0 ≤ qup S.2.1 i v 4 ∧ qup S.2.1 i v 4 ≤ qup S.2.1 i v 3
    rw [e 3 (by omega), e 4 (by omega)]; exact h6
  · have j1 : j < qup S.2.1 i v 3 := j1
    rw [e 3 (by omega)] at j1
    show (0 ≤ qup S.2.1 i v (29 + j) ∧ qup S.2.1 i v (29 + j) ≤ 11) ∧ (0 ≤ qup S.2.1 i v (49 + j) ∧ qup S.2.1 i v (49 + j) ≤ 11)
    rw [e (29 + j) (by omega), e (49 + j) (by omega)]
    exact h7 j j0 j1
  · exact qup_le (h8 j j0 j1).1 (fun q => by omega)
  · exact qup_le (h8 j j0 j1).2 (fun q => by omega)
  · exact qup_le (h9 j j0 j1) (fun q => by omega)
theorem qOk_inc {x : qX} {p k v : Int} {S : qS} (h : qOk x p S) (hk : (k = 0 ∧ v ≤ 6) ∨ (k = 1 ∧ v ≤ 6) ∨ (k = 2 ∧ v ≤ 12)) (hv : 0 ≤ v) : qOk x p (qst k v S) := by
  obtain ⟨⟨h1, h2, h3, h4, h5, h6, h7, h8, h9⟩, hp⟩ := h
  have e : ∀ j, 3 ≤ j → qup S.2.1 k v j = S.2.1 j := fun j hj => qup_o (by omega)
  refine ⟨⟨h1, qup_le h2 (fun q => by omega), qup_le h3 (fun q => by omega), qup_le h4 (fun q => by omega), ?_, ?_, fun j j0 j1 => ?_, fun j j0 j1 => ?_, fun j j0 j1 => ?_⟩, hp⟩
  · show 0 ≤ qup S.2.1 k v 3 ∧ qup S.2.1 k v 3 ≤ 20
    rw [e 3 (by omega)]; exact h5
  · show 0 ≤ qup S.2.1 k v 4 ∧ qup S.2.1 k v 4 ≤ qup S.2.1 k v 3
    rw [e 3 (by omega), e 4 (by omega)]; exact h6
  · have j1 : j < qup S.2.1 k v 3 := j1
    rw [e 3 (by omega)] at j1
    show (0 ≤ qup S.2.1 k v (29 + j) ∧ qup S.2.1 k v (29 + j) ≤ 11) ∧ (0 ≤ qup S.2.1 k v (49 + j) ∧ qup S.2.1 k v (49 + j) ≤ 11)
    rw [e (29 + j) (by omega), e (49 + j) (by omega)]
    exact h7 j j0 j1
  · show (0 ≤ qup S.2.1 k v (89 + j) ∧ qup S.2.1 k v (89 + j) ≤ 12) ∧ (0 ≤ qup S.2.1 k v (101 + j) ∧ qup S.2.1 k v (101 + j) ≤ 6)
    rw [e (89 + j) (by omega), e (101 + j) (by omega)]
    exact h8 j j0 j1
  · show 0 ≤ qup S.2.1 k v (107 + j) ∧ qup S.2.1 k v (107 + j) ≤ 9
    rw [e (107 + j) (by omega)]
    exact h9 j j0 j1
theorem qOk_join {x : qX} {p r a b : Int} {S : qS} (h : qOk x p S) (h3 : ¬ S.2.1 3 = 20) (hr : 0 ≤ r ∧ r ≤ 1) (ha : 0 ≤ a ∧ a ≤ 11) (hb : 0 ≤ b ∧ b ≤ 11) : qOk x p (qJoin r a b S) := by
  obtain ⟨⟨h1, h2, h3', h4, h5, h6, h7, h8, h9⟩, hp⟩ := h
  have e3 : (qJoin r a b S).2.1 3 = S.2.1 3 + 1 := by
    show qup (qup (qup (qup S.2.1 (29 + S.2.1 3) a) (49 + S.2.1 3) b) 4 (S.2.1 4 + r)) 3 (S.2.1 3 + 1) 3 = _
    exact qup_s
  have e4 : (qJoin r a b S).2.1 4 = S.2.1 4 + r := by
    show qup (qup (qup (qup S.2.1 (29 + S.2.1 3) a) (49 + S.2.1 3) b) 4 (S.2.1 4 + r)) 3 (S.2.1 3 + 1) 4 = _
    exact (qup_o (by decide)).trans qup_s
  have e : ∀ j, ¬ j = 3 → ¬ j = 4 → ¬ j = 49 + S.2.1 3 → ¬ j = 29 + S.2.1 3 → (qJoin r a b S).2.1 j = S.2.1 j := fun j a1 a2 a3 a4 => (qup_o a1).trans ((qup_o a2).trans ((qup_o a3).trans (qup_o a4)))
  have e49 : (qJoin r a b S).2.1 (49 + S.2.1 3) = b := by
    show qup (qup (qup (qup S.2.1 (29 + S.2.1 3) a) (49 + S.2.1 3) b) 4 (S.2.1 4 + r)) 3 (S.2.1 3 + 1) (49 + S.2.1 3) = _
    exact (qup_o (by omega)).trans ((qup_o (by omega)).trans qup_s)
  have e29 : (qJoin r a b S).2.1 (29 + S.2.1 3) = a := by
    show qup (qup (qup (qup S.2.1 (29 + S.2.1 3) a) (49 + S.2.1 3) b) 4 (S.2.1 4 + r)) 3 (S.2.1 3 + 1) (29 + S.2.1 3) = _
    exact (qup_o (by omega)).trans ((qup_o (by omega)).trans ((qup_o (by omega)).trans qup_s))
  refine ⟨⟨h1, ?_, ?_, ?_, ?_, ?_, fun j j0 j1 => ?_, fun j j0 j1 => ?_, fun j j0 j1 => ?_⟩, hp⟩
  · rw [e 0 (by omega) (by omega) (by omega) (by omega)]; exact h2
  · rw [e 1 (by omega) (by omega) (by omega) (by omega)]; exact h3'
  · rw [e 2 (by omega) (by omega) (by omega) (by omega)]; exact h4
  · rw [e3]; omega
  · rw [e3, e4]; omega
  · rw [e3] at j1
    by_cases q : j = S.2.1 3
    · rw [q, e29, e49]; exact ⟨ha, hb⟩
    · rw [e (29 + j) (by omega) (by omega) (by omega) (by omega), e (49 + j) (by omega) (by omega) (by omega) (by omega)]
      exact h7 j j0 (by omega)
  · rw [e (89 + j) (by omega) (by omega) (by omega) (by omega), e (101 + j) (by omega) (by omega) (by omega) (by omega)]
    exact h8 j j0 j1
  · rw [e (107 + j) (by omega) (by omega) (by omega) (by omega)]
    exact h9 j j0 j1
theorem qfr_0 {x : qX} {to p : Int} {S : qS} (hl : 0 ≤ x.2.2) (h : qOk x p S) (h0 : (qfr x to S).1 = 0) : qOk x p (qfr x to S).2 := by
  have e1 := qfr_h h0
  have e2 := qfr_p h0
  have h2 := qOk_a hl h
  refine ⟨⟨by rw [e2]; exact h2.1.1, ?_⟩, by rw [e2]; exact h2.2⟩
  rw [e1]
  exact h.1.2
theorem qline_0 {x : qX} {S : qS} (hl : 0 ≤ x.2.2) (hS : qSb x S) (h0 : (qline x S).1 = 0) : qOk x (S.1 + 1) (qline x S).2 := by
  have one : ∀ w, qIs x S w = true → qOk x (S.1 + 1) (qadv x S) := fun w hw => by
    unfold qIs at hw
    rw [Bool.and_eq_true, decide_eq_true_iff] at hw
    have hw1 : qkd x.1 x.2.1 x.2.2 S.1 = 1 := hw.1
    exact ⟨qSb_a hS hl, ((q_bd hS.1.1 hS.1.2 hl).2.1 (by omega)).1⟩
  have new : ∀ (w k b most : Int), qIs x S w = true → ((k = 0 ∧ most = 6) ∨ (k = 1 ∧ most = 6)) → (qNew x k b most S).1 = 0 → qOk x (S.1 + 1) (qNew x k b most S).2 := by
    intro w k b most hw hk h
    unfold qNew at h ⊢
    by_cases h1 : S.2.1 k = most
    · rw [if_pos h1] at h; exact absurd (show (4 : Int) = 0 from h) (by decide)
    · rw [if_neg h1] at h ⊢
      obtain ⟨a1, a2, a3⟩ := qbd_0 h
      rw [a3]
      have g := qfr_0 hl (one w hw) a1
      have e := congrFun (qfr_h a1) k
      have hb : 0 ≤ S.2.1 k ∧ S.2.1 k ≤ 6 := by rcases hk with ⟨rfl, -⟩ | ⟨rfl, -⟩; exact hS.2.1; exact hS.2.2.1
      have e : (qfr x (b + S.2.1 k) (qadv x S)).2.2.1 k = S.2.1 k := e
      exact qOk_inc g (by rw [e]; omega) (by rw [e]; omega)
  have pas : ∀ (w r : Int), qIs x S w = true → (0 ≤ r ∧ r ≤ 1) → (qPas x r S).1 = 0 → qOk x (S.1 + 1) (qPas x r S).2 := by
    intro w r hw hr h
    unfold qPas at h ⊢
    by_cases h1 : S.2.1 3 = 20
    · rw [if_pos h1] at h; exact absurd (show (4 : Int) = 0 from h) (by decide)
    · rw [if_neg h1] at h ⊢
      have hm := hS.2.2.2.1
      obtain ⟨a1, a2, a3⟩ := qtn_0 hm.1 h
      rw [a3] at h ⊢
      obtain ⟨b1, b2, b3⟩ := qtn_0 (show 0 ≤ (qadv x S).2.1 2 from hm.1) h
      rw [b3] at h ⊢
      have b2 : qlk x 12 ((qadv x S).2.1 2) (qadv x (qadv x S)) < S.2.1 2 := b2
      try dsimp only at h ⊢
      by_cases h2 : qlk x 12 (S.2.1 2) (qadv x S) = qlk x 12 ((qadv x S).2.1 2) (qadv x (qadv x S)) ∨ qjn (qadv x (qadv x S)).2.1 (qlk x 12 (S.2.1 2) (qadv x S)) (qlk x 12 ((qadv x S).2.1 2) (qadv x (qadv x S))) ((qadv x (qadv x S)).2.1 3).toNat = true
      · rw [if_pos h2] at h; exact absurd (show (3 : Int) = 0 from h) (by decide)
      · rw [if_neg h2] at h ⊢
        exact qOk_a hl (qOk_join (qOk_a hl (one w hw)) h1 hr (by omega) (by omega))
  have hm1 := hS.2.2.1
  have hm2 := hS.2.2.2.1
  unfold qline at h0 ⊢
  by_cases i0 : qIs x S 448546567013 = true
  · rw [if_pos i0] at h0 ⊢; exact new _ 0 0 6 i0 (by omega) h0
  rw [if_neg i0] at h0 ⊢
  by_cases i1 : qIs x S 478745093490 = true
  · rw [if_pos i1] at h0 ⊢; exact new _ 1 6 6 i1 (by omega) h0
  rw [if_neg i1] at h0 ⊢
  by_cases i2 : qIs x S 1919905645 = true
  · rw [if_pos i2] at h0 ⊢
    unfold qRoom at h0 ⊢
    by_cases h1 : S.2.1 2 = 12
    · rw [if_pos h1] at h0; exact absurd (show (4 : Int) = 0 from h0) (by decide)
    · rw [if_neg h1] at h0 ⊢
      obtain ⟨a1, a2, a3⟩ := qbd_0 h0
      rw [a3]
      have g := qfr_0 hl (one _ i2) a1
      have e := qfr_h a1
      try dsimp only at a2 ⊢
      obtain ⟨b1, b2, b3⟩ := qtn_0 g.1.2.1.1 a2
      rw [b3] at a2 ⊢
      obtain ⟨c1, c2, c3⟩ := qtn_0 g.1.2.2.1.1 a2
      rw [c3]
      have e : (qfr x (12 + S.2.1 2) (qadv x S)).2.2.1 2 = S.2.1 2 := congrFun e 2
      refine qOk_inc (k := 2) (v := (qfr x (12 + S.2.1 2) (qadv x S)).2.2.1 2 + 1) (qOk_a hl (qOk_a hl g)) (by rw [e]; omega) (by rw [e]; omega)
  rw [if_neg i2] at h0 ⊢
  by_cases i3 : qIs x S 1685024626 = true
  · rw [if_pos i3] at h0 ⊢; exact pas _ 0 i3 (by omega) h0
  rw [if_neg i3] at h0 ⊢
  by_cases i4 : qIs x S 1919902309 = true
  · rw [if_pos i4] at h0 ⊢; exact pas _ 1 i4 (by omega) h0
  rw [if_neg i4] at h0 ⊢
  by_cases i5 : qIs x S 24948 = true
  · rw [if_pos i5] at h0 ⊢
    unfold qAt at h0 ⊢
    obtain ⟨a1, a2, a3⟩ := qtn_0 hm1.1 h0
    rw [a3] at h0 ⊢
    try dsimp only at h0 ⊢
    by_cases h2 : 0 < (qadv x S).2.1 (89 + qlk x 6 (S.2.1 1) (qadv x S))
    · rw [if_pos h2] at h0; exact absurd (show (3 : Int) = 0 from h0) (by decide)
    rw [if_neg h2] at h0 ⊢
    obtain ⟨b1, b2, b3⟩ := qtn_0 (show 0 ≤ (qadv x S).2.1 2 from hm2.1) h0
    rw [b3]
    have b2 : _ < S.2.1 2 := b2
    exact qOk_a hl (qOk_st (qOk_a hl (one _ i5)) (by omega))
  rw [if_neg i5] at h0 ⊢
  by_cases i6 : qIs x S 465557354085 = true
  · rw [if_pos i6] at h0 ⊢
    unfold qLet at h0 ⊢
    obtain ⟨a1, a2, a3⟩ := qtn_0 hm1.1 h0
    rw [a3] at h0 ⊢
    try dsimp only at h0 ⊢
    obtain ⟨b1, b2, b3⟩ := qtn_0 (show 0 ≤ (qadv x S).2.1 1 from hm1.1) h0
    rw [b3] at h0 ⊢
    try dsimp only at h0 ⊢
    split at h0
    · exact absurd (show (3 : Int) = 0 from h0) (by decide)
    · rename_i h2
      rw [if_neg h2]
      exact qOk_a hl (qOk_st (qOk_a hl (one _ i6)) (by omega))
  rw [if_neg i6] at h0 ⊢
  by_cases i7 : qIs x S 1751476594 = true
  · rw [if_pos i7] at h0 ⊢
    unfold qHeir at h0 ⊢
    obtain ⟨a1, a2, a3⟩ := qtn_0 hm1.1 h0
    rw [a3] at h0 ⊢
    try dsimp only at h0 ⊢
    by_cases h2 : 0 < (qadv x S).2.1 (101 + qlk x 6 (S.2.1 1) (qadv x S))
    · rw [if_pos h2] at h0; exact absurd (show (3 : Int) = 0 from h0) (by decide)
    rw [if_neg h2] at h0 ⊢
    obtain ⟨b1, b2, b3⟩ := qtn_0 (show 0 ≤ (qadv x S).2.1 1 from hm1.1) h0
    rw [b3] at h0 ⊢
    have b2 : _ < S.2.1 1 := b2
    try dsimp only at h0 ⊢
    split at h0
    · exact absurd (show (3 : Int) = 0 from h0) (by decide)
    · rename_i h3
      rw [if_neg h3]
      exact qOk_a hl (qOk_st (qOk_a hl (one _ i7)) (by omega))
  rw [if_neg i7] at h0 ⊢
  by_cases i8 : qIs x S 465625113971 = true
  · rw [if_pos i8] at h0 ⊢
    unfold qLike at h0 ⊢
    obtain ⟨a1, a2, a3⟩ := qtn_0 hm1.1 h0
    rw [a3] at h0 ⊢
    try dsimp only at h0 ⊢
    obtain ⟨b1, b2, b3⟩ := qtn_0 (show 0 ≤ (qadv x S).2.1 2 from hm2.1) h0
    rw [b3] at h0 ⊢
    have b2 : qlk x 12 ((qadv x S).2.1 2) (qadv x (qadv x S)) < S.2.1 2 := b2
    try dsimp only at h0 ⊢
    split at h0
    · exact absurd (show (3 : Int) = 0 from h0) (by decide)
    · rename_i h3
      rw [if_neg h3]
      split at h0
      · rename_i h4
        rw [if_pos h4]
        split at h0
        · rename_i h5
          rw [if_pos h5]
          exact qOk_a hl (qOk_st (qOk_a hl (qOk_a hl (one _ i8))) (by omega))
        · exact absurd (show (2 : Int) = 0 from h0) (by decide)
      · exact absurd (show (1 : Int) = 0 from h0) (by decide)
  rw [if_neg i8] at h0
  exact absurd (show (1 : Int) = 0 from h0) (by decide)
theorem qfull_0 {x : qX} {S : qS} (hl : 0 ≤ x.2.2) (hS : qSb x S) (h0 : (qfull x S).1 = 0) : qOk x (S.1 + 1) (qfull x S).2 := by
  unfold qfull at h0 ⊢
  obtain ⟨a1, a2, a3⟩ := qbd_0 h0
  rw [a3]
  have g := qline_0 hl hS a1
  try dsimp only at a2 ⊢
  split at a2
  · rename_i h1
    rw [if_pos h1]
    exact qOk_a hl g
  · exact absurd (show (1 : Int) = 0 from a2) (by decide)
