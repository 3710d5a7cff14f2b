/-! THE CLASS LOOKS A NAME UP in the TERRACE that stands: indexOf, toldName. -/
noncomputable section
def cRe (S : qS) (σ : vS) : Prop := (σ 94 0 = S.2.1 0 ∧ σ 94 1 = S.2.1 1 ∧ σ 94 2 = S.2.1 2) ∧ cNm (σ 95) (S.2.1 0) S.2.2 0 ∧ cNm (σ 96) (S.2.1 1) S.2.2 6 ∧ cNm (σ 97) (S.2.1 2) S.2.2 12
def vt81 : vSpL := fun vs σ K => match vs with
  | [.inr (.inl 93), .inl sort, .inr (.inr code)] => (sort = 0 ∨ sort = 1 ∨ sort = 2) ∧ (sort = 0 → ∀ r : Int, rfd (σ 95) 0 (σ 94 0) code r → K (some (.inl r)) σ) ∧ (sort = 1 → ∀ r : Int, rfd (σ 96) 0 (σ 94 1) code r → K (some (.inl r)) σ) ∧ (sort = 2 → ∀ r : Int, rfd (σ 97) 0 (σ 94 2) code r → K (some (.inl r)) σ)
  | _ => False
def vt75 : vSpL := fun vs σ K => match vs with
  | [.inr (.inl 7), .inr (.inl 93), .inl sort] => (sort = 0 ∨ sort = 1 ∨ sort = 2) ∧ ∃ x S m, cT x S.1 σ ∧ cRe S σ ∧ cHn S ∧ (sort = 0 → m = S.2.1 0 ∧ (qlk x 0 m S < 0 → ∀ σ2, cFl x (-(qlk x 0 m S)) S.1 σ2 → cg σ σ2 → K (some (.inl (-1))) σ2) ∧ (0 ≤ qlk x 0 m S → K (some (.inl (qlk x 0 m S))) σ)) ∧ (sort = 1 → m = S.2.1 1 ∧ (qlk x 6 m S < 0 → ∀ σ2, cFl x (-(qlk x 6 m S)) S.1 σ2 → cg σ σ2 → K (some (.inl (-1))) σ2) ∧ (0 ≤ qlk x 6 m S → K (some (.inl (qlk x 6 m S))) σ)) ∧ (sort = 2 → m = S.2.1 2 ∧ (qlk x 12 m S < 0 → ∀ σ2, cFl x (-(qlk x 12 m S)) S.1 σ2 → cg σ σ2 → K (some (.inl (-1))) σ2) ∧ (0 ≤ qlk x 12 m S → K (some (.inl (qlk x 12 m S))) σ))
  | _ => False
def vT2 : List (Nat × vSpL) := (81, vt81) :: vL1
end
section ZVT
variable {E : zE} {w : va_W} {σ : vS} {K : vKL}
set_option maxRecDepth 8192 in
theorem vt_81l0 (X : zX gKX E) (B : zB E) {code m0 : Int} (hm : 0 ≤ m0 ∧ m0 ≤ 6) (hK : ∀ r : Int, rfd (σ 95) 0 m0 code r → K (some (.inl r)) σ) : ∀ (m : Nat) (i : Int), m0 - i < (m : Int) → 0 ≤ i → i ≤ m0 → (∀ j : Int, 0 ≤ j → j < i → ¬ σ 95 j = code) → zGC E md72 w gm_81 23 [(0, .inr (.inl 93)), (1, .inl 0), (2, .inr (.inr code)), (4, .inr (.inl 95)), (5, .inl m0), (6, .inl i)] σ K := by
  intro m
  induction m with
  | zero => intro i h; omega
  | succ m ih =>
    intro i hM i0 i1 hn
    refine zbdC (fun hb => zgoC X B zS_nilC [] [(23, [0, 1, 2, 4, 5, 6])] (fun m => Nat.beq m.2.2.2.2.2.2.length 28) (by decide +kernel) ?_)
    refine And.intro (fun (c1 : m0 ≤ i) => ?_) (fun (c2 : i < m0) => ?_)
    · exact hK _ (Or.inl ⟨rfl, fun j j0 j1 => by rw [Int.zero_add]; exact hn j j0 (by omega)⟩)
    · refine And.intro (show 0 ≤ i ∧ i < 6 from by omega) ?_
      refine And.intro (fun (c3 : (σ 95 i) < code) => ?_) (And.intro (fun (c4 : (σ 95 i) = code) => ?_) (fun (c5 : code < (σ 95 i)) => ?_))
      · refine And.intro (fun _ => ?_) (fun (q : (-1) = 0) => absurd q (by decide))
        refine And.intro (show -2147483648 ≤ (i + 1) ∧ (i + 1) ≤ 2147483647 from by omega) ?_
        show zGC E md72 w gm_81 23 [(0, .inr (.inl 93)), (1, .inl 0), (2, .inr (.inr code)), (4, .inr (.inl 95)), (5, .inl m0), (6, .inl (i + 1))] σ K
        exact ih (i + 1) (by omega) (by omega) (by omega) (fun j j0 j1 => by
          by_cases e : j = i
          · rw [e]; omega
          · exact hn j j0 (by omega))
      · refine And.intro (fun (q : ¬ 0 = 0) => absurd q (by decide)) (fun _ => ?_)
        exact hK _ (Or.inr ⟨by omega, by rw [Int.zero_add]; omega, fun j j0 j1 => by rw [Int.zero_add]; exact hn j j0 j1⟩)
      · refine And.intro (fun _ => ?_) (fun (q : 1 = 0) => absurd q (by decide))
        refine And.intro (show -2147483648 ≤ (i + 1) ∧ (i + 1) ≤ 2147483647 from by omega) ?_
        show zGC E md72 w gm_81 23 [(0, .inr (.inl 93)), (1, .inl 0), (2, .inr (.inr code)), (4, .inr (.inl 95)), (5, .inl m0), (6, .inl (i + 1))] σ K
        exact ih (i + 1) (by omega) (by omega) (by omega) (fun j j0 j1 => by
          by_cases e : j = i
          · rw [e]; omega
          · exact hn j j0 (by omega))
set_option maxRecDepth 8192 in
theorem vt_81l1 (X : zX gKX E) (B : zB E) {code m0 : Int} (hm : 0 ≤ m0 ∧ m0 ≤ 6) (hK : ∀ r : Int, rfd (σ 96) 0 m0 code r → K (some (.inl r)) σ) : ∀ (m : Nat) (i : Int), m0 - i < (m : Int) → 0 ≤ i → i ≤ m0 → (∀ j : Int, 0 ≤ j → j < i → ¬ σ 96 j = code) → zGC E md72 w gm_81 23 [(0, .inr (.inl 93)), (1, .inl 1), (2, .inr (.inr code)), (4, .inr (.inl 96)), (5, .inl m0), (6, .inl i)] σ K := by
  intro m
  induction m with
  | zero => intro i h; omega
  | succ m ih =>
    intro i hM i0 i1 hn
    refine zbdC (fun hb => zgoC X B zS_nilC [] [(23, [0, 1, 2, 4, 5, 6])] (fun m => Nat.beq m.2.2.2.2.2.2.length 28) (by decide +kernel) ?_)
    refine And.intro (fun (c1 : m0 ≤ i) => ?_) (fun (c2 : i < m0) => ?_)
    · exact hK _ (Or.inl ⟨rfl, fun j j0 j1 => by rw [Int.zero_add]; exact hn j j0 (by omega)⟩)
    · refine And.intro (show 0 ≤ i ∧ i < 6 from by omega) ?_
      refine And.intro (fun (c3 : (σ 96 i) < code) => ?_) (And.intro (fun (c4 : (σ 96 i) = code) => ?_) (fun (c5 : code < (σ 96 i)) => ?_))
      · refine And.intro (fun _ => ?_) (fun (q : (-1) = 0) => absurd q (by decide))
        refine And.intro (show -2147483648 ≤ (i + 1) ∧ (i + 1) ≤ 2147483647 from by omega) ?_
        show zGC E md72 w gm_81 23 [(0, .inr (.inl 93)), (1, .inl 1), (2, .inr (.inr code)), (4, .inr (.inl 96)), (5, .inl m0), (6, .inl (i + 1))] σ K
        exact ih (i + 1) (by omega) (by omega) (by omega) (fun j j0 j1 => by
          by_cases e : j = i
          · rw [e]; omega
          · exact hn j j0 (by omega))
      · refine And.intro (fun (q : ¬ 0 = 0) => absurd q (by decide)) (fun _ => ?_)
        exact hK _ (Or.inr ⟨by omega, by rw [Int.zero_add]; omega, fun j j0 j1 => by rw [Int.zero_add]; exact hn j j0 j1⟩)
      · refine And.intro (fun _ => ?_) (fun (q : 1 = 0) => absurd q (by decide))
        refine And.intro (show -2147483648 ≤ (i + 1) ∧ (i + 1) ≤ 2147483647 from by omega) ?_
        show zGC E md72 w gm_81 23 [(0, .inr (.inl 93)), (1, .inl 1), (2, .inr (.inr code)), (4, .inr (.inl 96)), (5, .inl m0), (6, .inl (i + 1))] σ K
        exact ih (i + 1) (by omega) (by omega) (by omega) (fun j j0 j1 => by
          by_cases e : j = i
          · rw [e]; omega
          · exact hn j j0 (by omega))
set_option maxRecDepth 8192 in
theorem vt_81l2 (X : zX gKX E) (B : zB E) {code m0 : Int} (hm : 0 ≤ m0 ∧ m0 ≤ 12) (hK : ∀ r : Int, rfd (σ 97) 0 m0 code r → K (some (.inl r)) σ) : ∀ (m : Nat) (i : Int), m0 - i < (m : Int) → 0 ≤ i → i ≤ m0 → (∀ j : Int, 0 ≤ j → j < i → ¬ σ 97 j = code) → zGC E md72 w gm_81 23 [(0, .inr (.inl 93)), (1, .inl 2), (2, .inr (.inr code)), (4, .inr (.inl 97)), (5, .inl m0), (6, .inl i)] σ K := by
  intro m
  induction m with
  | zero => intro i h; omega
  | succ m ih =>
    intro i hM i0 i1 hn
    refine zbdC (fun hb => zgoC X B zS_nilC [] [(23, [0, 1, 2, 4, 5, 6])] (fun m => Nat.beq m.2.2.2.2.2.2.length 28) (by decide +kernel) ?_)
    refine And.intro (fun (c1 : m0 ≤ i) => ?_) (fun (c2 : i < m0) => ?_)
    · exact hK _ (Or.inl ⟨rfl, fun j j0 j1 => by rw [Int.zero_add]; exact hn j j0 (by omega)⟩)
    · refine And.intro (show 0 ≤ i ∧ i < 12 from by omega) ?_
      refine And.intro (fun (c3 : (σ 97 i) < code) => ?_) (And.intro (fun (c4 : (σ 97 i) = code) => ?_) (fun (c5 : code < (σ 97 i)) => ?_))
      · refine And.intro (fun _ => ?_) (fun (q : (-1) = 0) => absurd q (by decide))
        refine And.intro (show -2147483648 ≤ (i + 1) ∧ (i + 1) ≤ 2147483647 from by omega) ?_
        show zGC E md72 w gm_81 23 [(0, .inr (.inl 93)), (1, .inl 2), (2, .inr (.inr code)), (4, .inr (.inl 97)), (5, .inl m0), (6, .inl (i + 1))] σ K
        exact ih (i + 1) (by omega) (by omega) (by omega) (fun j j0 j1 => by
          by_cases e : j = i
          · rw [e]; omega
          · exact hn j j0 (by omega))
      · refine And.intro (fun (q : ¬ 0 = 0) => absurd q (by decide)) (fun _ => ?_)
        exact hK _ (Or.inr ⟨by omega, by rw [Int.zero_add]; omega, fun j j0 j1 => by rw [Int.zero_add]; exact hn j j0 j1⟩)
      · refine And.intro (fun _ => ?_) (fun (q : 1 = 0) => absurd q (by decide))
        refine And.intro (show -2147483648 ≤ (i + 1) ∧ (i + 1) ≤ 2147483647 from by omega) ?_
        show zGC E md72 w gm_81 23 [(0, .inr (.inl 93)), (1, .inl 2), (2, .inr (.inr code)), (4, .inr (.inl 97)), (5, .inl m0), (6, .inl (i + 1))] σ K
        exact ih (i + 1) (by omega) (by omega) (by omega) (fun j j0 j1 => by
          by_cases e : j = i
          · rw [e]; omega
          · exact hn j j0 (by omega))
set_option maxRecDepth 8192 in
theorem vt_81 (X : zX gKX E) (B : zB E) : zOKC E md72 w 81 vt81 := by
  intro q hq vs σ K h
  cases (show gMT 81 = some (gm_81, 7) from rfl).symm.trans hq
  unfold vt81 at h
  split at h
  · rename_i sort code
    show zGC E md72 w gm_81 0 [(0, .inr (.inl 93)), (1, .inl sort), (2, .inr (.inr code))] σ K
    obtain ⟨hs, h0, h1, h2⟩ := h
    rcases hs with rfl | rfl | rfl
    · refine zbdC (fun hb => zgoC X B zS_nilC [] [(23, [0, 1, 2, 4, 5, 6])] (fun m => Nat.beq m.2.2.2.2.2.2.length 28) (by decide +kernel) ?_)
      refine And.intro (fun (q : ¬ 0 = 0) => absurd q (by decide)) (fun _ => ?_)
      refine And.intro (fun (q : 0 < 0) => absurd q (by decide)) (fun _ => ?_)
      refine And.intro (fun (q : 3 ≤ 0) => absurd q (by decide)) (fun _ => ?_)
      refine And.intro (show 0 ≤ 1 ∧ 1 ≤ 1 from by omega) ?_
      refine And.intro (fun (q : 1 = 0) => absurd q (by decide)) (fun _ => ?_)
      refine And.intro (show 0 ≤ 0 ∧ 0 < 3 from by omega) ?_
      have f1 : 0 ≤ σ 94 0 ∧ σ 94 0 ≤ 6 := zbC hb (t := 94) (a := 0) (n := 2) (i := 0) (by decide +kernel) (by omega) (by omega)
      refine And.intro (fun (c2 : 6 < (σ 94 0)) => ?_) (fun (c3 : (σ 94 0) ≤ 6) => ?_)
      · show zGC E md72 w gm_81 23 [(0, .inr (.inl 93)), (1, .inl 0), (2, .inr (.inr code)), (4, .inr (.inl 95)), (5, .inl 6), (6, .inl 0)] σ K
        exact vt_81l0 X B (by omega) (fun r hr => h0 rfl r (by first | exact hr | (rw [show σ 94 0 = 6 by omega]; exact hr))) 20 0 (by omega) (by omega) (by omega) (fun j j0 j1 => by omega)
      · show zGC E md72 w gm_81 23 [(0, .inr (.inl 93)), (1, .inl 0), (2, .inr (.inr code)), (4, .inr (.inl 95)), (5, .inl (σ 94 0)), (6, .inl 0)] σ K
        exact vt_81l0 X B (by omega) (fun r hr => h0 rfl r (by first | exact hr | (rw [show σ 94 0 = 6 by omega]; exact hr))) 20 0 (by omega) (by omega) (by omega) (fun j j0 j1 => by omega)
    · refine zbdC (fun hb => zgoC X B zS_nilC [] [(23, [0, 1, 2, 4, 5, 6])] (fun m => Nat.beq m.2.2.2.2.2.2.length 28) (by decide +kernel) ?_)
      refine And.intro (fun _ => ?_) (fun (q : 1 = 0) => absurd q (by decide))
      refine And.intro (fun (q : ¬ 1 = 1) => absurd q (by decide)) (fun _ => ?_)
      refine And.intro (fun (q : 1 < 0) => absurd q (by decide)) (fun _ => ?_)
      refine And.intro (fun (q : 3 ≤ 1) => absurd q (by decide)) (fun _ => ?_)
      refine And.intro (show 0 ≤ 1 ∧ 1 ≤ 1 from by omega) ?_
      refine And.intro (fun (q : 1 = 0) => absurd q (by decide)) (fun _ => ?_)
      refine And.intro (show 0 ≤ 1 ∧ 1 < 3 from by omega) ?_
      have f1 : 0 ≤ σ 94 1 ∧ σ 94 1 ≤ 6 := zbC hb (t := 94) (a := 0) (n := 2) (i := 1) (by decide +kernel) (by omega) (by omega)
      refine And.intro (fun (c2 : 6 < (σ 94 1)) => ?_) (fun (c3 : (σ 94 1) ≤ 6) => ?_)
      · show zGC E md72 w gm_81 23 [(0, .inr (.inl 93)), (1, .inl 1), (2, .inr (.inr code)), (4, .inr (.inl 96)), (5, .inl 6), (6, .inl 0)] σ K
        exact vt_81l1 X B (by omega) (fun r hr => h1 rfl r (by first | exact hr | (rw [show σ 94 1 = 6 by omega]; exact hr))) 20 0 (by omega) (by omega) (by omega) (fun j j0 j1 => by omega)
      · show zGC E md72 w gm_81 23 [(0, .inr (.inl 93)), (1, .inl 1), (2, .inr (.inr code)), (4, .inr (.inl 96)), (5, .inl (σ 94 1)), (6, .inl 0)] σ K
        exact vt_81l1 X B (by omega) (fun r hr => h1 rfl r (by first | exact hr | (rw [show σ 94 1 = 6 by omega]; exact hr))) 20 0 (by omega) (by omega) (by omega) (fun j j0 j1 => by omega)
    · refine zbdC (fun hb => zgoC X B zS_nilC [] [(23, [0, 1, 2, 4, 5, 6])] (fun m => Nat.beq m.2.2.2.2.2.2.length 28) (by decide +kernel) ?_)
      refine And.intro (fun _ => ?_) (fun (q : 2 = 0) => absurd q (by decide))
      refine And.intro (fun _ => ?_) (fun (q : 2 = 1) => absurd q (by decide))
      refine And.intro (fun (q : 2 < 0) => absurd q (by decide)) (fun _ => ?_)
      refine And.intro (fun (q : 3 ≤ 2) => absurd q (by decide)) (fun _ => ?_)
      refine And.intro (show 0 ≤ 1 ∧ 1 ≤ 1 from by omega) ?_
      refine And.intro (fun (q : 1 = 0) => absurd q (by decide)) (fun _ => ?_)
      refine And.intro (show 0 ≤ 2 ∧ 2 < 3 from by omega) ?_
      have f1 : 0 ≤ σ 94 2 ∧ σ 94 2 ≤ 12 := zbC hb (t := 94) (a := 2) (n := 3) (i := 2) (by decide +kernel) (by omega) (by omega)
      refine And.intro (fun (c2 : 12 < (σ 94 2)) => ?_) (fun (c3 : (σ 94 2) ≤ 12) => ?_)
      · show zGC E md72 w gm_81 23 [(0, .inr (.inl 93)), (1, .inl 2), (2, .inr (.inr code)), (4, .inr (.inl 97)), (5, .inl 12), (6, .inl 0)] σ K
        exact vt_81l2 X B (by omega) (fun r hr => h2 rfl r (by first | exact hr | (rw [show σ 94 2 = 12 by omega]; exact hr))) 20 0 (by omega) (by omega) (by omega) (fun j j0 j1 => by omega)
      · show zGC E md72 w gm_81 23 [(0, .inr (.inl 93)), (1, .inl 2), (2, .inr (.inr code)), (4, .inr (.inl 97)), (5, .inl (σ 94 2)), (6, .inl 0)] σ K
        exact vt_81l2 X B (by omega) (fun r hr => h2 rfl r (by first | exact hr | (rw [show σ 94 2 = 12 by omega]; exact hr))) 20 0 (by omega) (by omega) (by omega) (fun j j0 j1 => by omega)
  · exact absurd h id
theorem vT2_ok (X : zX gKX E) (B : zB E) : zSC E md72 w vT2 := zS_consC (vt_81 X B) (vL1_ok X B)
set_option maxRecDepth 8192 in
theorem vt_75 (X : zX gKX E) (B : zB E) : zOKC E md72 w 75 vt75 := by
  intro q hq vs σ K h
  cases (show gMT 75 = some (gm_75, 4) from rfl).symm.trans hq
  unfold vt75 at h
  split at h
  · rename_i sort
    show zGC E md72 w gm_75 0 [(0, .inr (.inl 7)), (1, .inr (.inl 93)), (2, .inl sort)] σ K
    obtain ⟨hs, x, S, m, hT, hR, hH, h0, h1, h2⟩ := h
    rcases hs with rfl | rfl | rfl
    · obtain ⟨em, h0⟩ := h0 rfl
      subst em
      have h0 := fun (_ : True) => h0
      refine zbdC (fun hb => zgoC X B (vT2_ok X B) [] [] (fun m => false) (by decide +kernel) ?_)
      have f1 : 0 ≤ σ 7 4 ∧ σ 7 4 ≤ 5 := zfC hb (t := 7) (f := 4) (by decide +kernel)
      refine And.intro (fun (c2 : (σ 7 4) = 3) => ?_) (fun (c3 : ¬ (σ 7 4) = 3) => ?_)
      · have hn : qnmp x S.1 = true := (cT_k hT).2.mp (by omega)
        refine ⟨(by omega), (fun _ => ?_), (fun q => absurd q (by decide)), (fun q => absurd q (by decide))⟩
        refine fun (r4 : Int) t5 => ?_
        have er4 : r4 = qfd S.2.2 0 (S.2.1 0) (qwd x.1 x.2.1 S.1) := by
          rw [hR.1.1] at t5
          exact cNm_fd hT hn hR.2.1 (by have := hH.1; have := hH.2.1; have := hH.2.2; omega) t5
        have br4 := qfd_b (f := S.2.2) (a := 0) (x := qwd x.1 x.2.1 S.1) (m := S.2.1 0) (by have := hH.1; have := hH.2.1; have := hH.2.2; omega)
        refine And.intro (fun (c6 : ¬ r4 = (-1)) => ?_) (fun (c7 : r4 = (-1)) => ?_)
        · have el : (qlk x 0 (S.2.1 0) S) = r4 := by
            show qlf x S.2.2 0 (S.2.1 0) S.1 = _
            rw [qlf_eq, if_pos hn, ← er4, if_pos (by omega)]
          rw [el] at h0
          exact (h0 trivial).2 (by omega)
        · refine And.intro (cT_fl hT (by omega)) ?_
          have el : (qlk x 0 (S.2.1 0) S) = -3 := by
            show qlf x S.2.2 0 (S.2.1 0) S.1 = -3
            rw [qlf_eq, if_pos hn, ← er4, if_neg (by omega)]
          rw [el] at h0
          have em : r4 = -1 := by omega
          rw [em]
          exact (h0 trivial).1 (by omega) _ (cFl_of hT) cg_fl
      · refine And.intro (cT_fl hT (by omega)) ?_
        have el : (qlk x 0 (S.2.1 0) S) = -1 := by
          show qlf x S.2.2 0 (S.2.1 0) S.1 = -1
          rw [qlf_eq]
          exact if_neg (fun q => by have := (cT_k hT).2.mpr q; omega)
        rw [el] at h0
        exact (h0 trivial).1 (by omega) _ (cFl_of hT) cg_fl
    · obtain ⟨em, h1⟩ := h1 rfl
      subst em
      have h1 := fun (_ : True) => h1
      refine zbdC (fun hb => zgoC X B (vT2_ok X B) [] [] (fun m => false) (by decide +kernel) ?_)
      have f1 : 0 ≤ σ 7 4 ∧ σ 7 4 ≤ 5 := zfC hb (t := 7) (f := 4) (by decide +kernel)
      refine And.intro (fun (c2 : (σ 7 4) = 3) => ?_) (fun (c3 : ¬ (σ 7 4) = 3) => ?_)
      · have hn : qnmp x S.1 = true := (cT_k hT).2.mp (by omega)
        refine ⟨(by omega), (fun q => absurd q (by decide)), (fun _ => ?_), (fun q => absurd q (by decide))⟩
        refine fun (r4 : Int) t5 => ?_
        have er4 : r4 = qfd S.2.2 6 (S.2.1 1) (qwd x.1 x.2.1 S.1) := by
          rw [hR.1.2.1] at t5
          exact cNm_fd hT hn hR.2.2.1 (by have := hH.1; have := hH.2.1; have := hH.2.2; omega) t5
        have br4 := qfd_b (f := S.2.2) (a := 6) (x := qwd x.1 x.2.1 S.1) (m := S.2.1 1) (by have := hH.1; have := hH.2.1; have := hH.2.2; omega)
        refine And.intro (fun (c6 : ¬ r4 = (-1)) => ?_) (fun (c7 : r4 = (-1)) => ?_)
        · have el : (qlk x 6 (S.2.1 1) S) = r4 := by
            show qlf x S.2.2 6 (S.2.1 1) S.1 = _
            rw [qlf_eq, if_pos hn, ← er4, if_pos (by omega)]
          rw [el] at h1
          exact (h1 trivial).2 (by omega)
        · refine And.intro (cT_fl hT (by omega)) ?_
          have el : (qlk x 6 (S.2.1 1) S) = -3 := by
            show qlf x S.2.2 6 (S.2.1 1) S.1 = -3
            rw [qlf_eq, if_pos hn, ← er4, if_neg (by omega)]
          rw [el] at h1
          have em : r4 = -1 := by omega
          rw [em]
          exact (h1 trivial).1 (by omega) _ (cFl_of hT) cg_fl
      · refine And.intro (cT_fl hT (by omega)) ?_
        have el : (qlk x 6 (S.2.1 1) S) = -1 := by
          show qlf x S.2.2 6 (S.2.1 1) S.1 = -1
          rw [qlf_eq]
          exact if_neg (fun q => by have := (cT_k hT).2.mpr q; omega)
        rw [el] at h1
        exact (h1 trivial).1 (by omega) _ (cFl_of hT) cg_fl
    · obtain ⟨em, h2⟩ := h2 rfl
      subst em
      have h2 := fun (_ : True) => h2
      refine zbdC (fun hb => zgoC X B (vT2_ok X B) [] [] (fun m => false) (by decide +kernel) ?_)
      have f1 : 0 ≤ σ 7 4 ∧ σ 7 4 ≤ 5 := zfC hb (t := 7) (f := 4) (by decide +kernel)
      refine And.intro (fun (c2 : (σ 7 4) = 3) => ?_) (fun (c3 : ¬ (σ 7 4) = 3) => ?_)
      · have hn : qnmp x S.1 = true := (cT_k hT).2.mp (by omega)
        refine ⟨(by omega), (fun q => absurd q (by decide)), (fun q => absurd q (by decide)), (fun _ => ?_)⟩
        refine fun (r4 : Int) t5 => ?_
        have er4 : r4 = qfd S.2.2 12 (S.2.1 2) (qwd x.1 x.2.1 S.1) := by
          rw [hR.1.2.2] at t5
          exact cNm_fd hT hn hR.2.2.2 (by have := hH.1; have := hH.2.1; have := hH.2.2; omega) t5
        have br4 := qfd_b (f := S.2.2) (a := 12) (x := qwd x.1 x.2.1 S.1) (m := S.2.1 2) (by have := hH.1; have := hH.2.1; have := hH.2.2; omega)
        refine And.intro (fun (c6 : ¬ r4 = (-1)) => ?_) (fun (c7 : r4 = (-1)) => ?_)
        · have el : (qlk x 12 (S.2.1 2) S) = r4 := by
            show qlf x S.2.2 12 (S.2.1 2) S.1 = _
            rw [qlf_eq, if_pos hn, ← er4, if_pos (by omega)]
          rw [el] at h2
          exact (h2 trivial).2 (by omega)
        · refine And.intro (cT_fl hT (by omega)) ?_
          have el : (qlk x 12 (S.2.1 2) S) = -3 := by
            show qlf x S.2.2 12 (S.2.1 2) S.1 = -3
            rw [qlf_eq, if_pos hn, ← er4, if_neg (by omega)]
          rw [el] at h2
          have em : r4 = -1 := by omega
          rw [em]
          exact (h2 trivial).1 (by omega) _ (cFl_of hT) cg_fl
      · refine And.intro (cT_fl hT (by omega)) ?_
        have el : (qlk x 12 (S.2.1 2) S) = -1 := by
          show qlf x S.2.2 12 (S.2.1 2) S.1 = -1
          rw [qlf_eq]
          exact if_neg (fun q => by have := (cT_k hT).2.mpr q; omega)
        rw [el] at h2
        exact (h2 trivial).1 (by omega) _ (cFl_of hT) cg_fl
  · exact absurd h id
end ZVT
