/-! THE LONGS OF THE TABLES; codeWith, keywordBy -/
noncomputable section
def gkx_7 : List (Nat × Int) := [(43, 27)]
def gkx_12 : List (Nat × Int) := [(114, 448546567013), (116, 478745093490), (118, 1919905645), (120, 1685024626), (122, 1919902309), (124, 24948), (126, 465557354085), (128, 1751476594), (130, 465625113971), (132, 1735353715), (134, 495622843507), (136, 1818588275), (138, 1650553459), (140, 1684628851), (142, 512869821555), (144, 495673767027), (146, 478627065459), (148, 422877228659), (150, 120299592184933), (152, 28530), (154, 6385252), (156, 7237492), (158, 422877228660), (160, 1718773093), (162, 28518), (164, 26990), (166, 123580963646565), (168, 431366304371), (170, 512970880104), (172, 121450625394034)]
def gkxl (l : List (Nat × Int)) (i : Nat) : Option Int := List.rec none (fun q _ ih => bif Nat.beq q.1 i then some q.2 else ih) l
def gKX : Nat → Nat → Option Int := fun o i => bif Nat.beq o 7 then gkxl gkx_7 i else (bif Nat.beq o 12 then gkxl gkx_12 i else none)
def cs64 : vSpL := fun vs σ K => match vs with
  | [.inr (.inr x), .inl c] => (97 ≤ c ∧ c ≤ 122) ∧ ∀ z : Int, ((0 ≤ x ∧ x < 10460353203) → z = x * 27 + (c - 96)) → K (some (.inr (.inr z))) σ
  | _ => False
/-- the first of the thirty codes that is x -/
def ckw (f : Int → Int) (x r : Int) : Prop := (r = -1 ∧ ∀ j : Int, 0 ≤ j → j < 30 → ¬ f j = x) ∨ ((0 ≤ r ∧ r < 30) ∧ f r = x ∧ ∀ j : Int, 0 ≤ j → j < r → ¬ f j = x)
def cs70 : vSpL := fun vs σ K => match vs with
  | [.inr (.inl 7), .inr (.inr x)] => ∀ r : Int, ckw (σ 35) x r → K (some (.inl r)) σ
  | _ => False
end
section ZC2
variable {E : zE} {md : aMd} {w : va_W} {σ : vS} {K : vKL}
theorem ck_64 (X : zX gKX E) (B : zB E) : zOKC E md w 64 cs64 := by
  intro q hq vs σ K h
  cases (show gMT 64 = some (gm_64, 3) from rfl).symm.trans hq
  unfold cs64 at h
  split at h
  · rename_i x c
    have hc := h.1
    show zGC E md w gm_64 0 [(0, .inr (.inr x)), (2, .inl c)] σ K
    by_cases hx : 0 ≤ x ∧ x < 10460353203
    · refine zbdC (fun hb => zgoC X B zS_nilC [] [] (fun m => false) (by decide +kernel) ?_)
      refine And.intro (show -9223372036854775808 ≤ (x * 27) ∧ (x * 27) ≤ 9223372036854775807 from by omega) ?_
      refine And.intro (show -2147483648 ≤ (c - 97) ∧ (c - 97) ≤ 2147483647 from by omega) ?_
      refine And.intro (show -2147483648 ≤ ((c - 97) + 1) ∧ ((c - 97) + 1) ≤ 2147483647 from by omega) ?_
      refine And.intro (show -9223372036854775808 ≤ ((x * 27) + ((c - 97) + 1)) ∧ ((x * 27) + ((c - 97) + 1)) ≤ 9223372036854775807 from by omega) ?_
      exact h.2 ((x * 27) + ((c - 97) + 1)) (fun _ => by omega)
    · refine zbdC (fun hb => zgoC X B zS_nilC [4, 12] [] (fun m => false) (by decide +kernel) ?_)
      refine fun (z1 : Int) (h2 : -9223372036854775808 ≤ z1 ∧ z1 ≤ 9223372036854775807) => ?_
      refine And.intro (show -2147483648 ≤ (c - 97) ∧ (c - 97) ≤ 2147483647 from by omega) ?_
      refine And.intro (show -2147483648 ≤ ((c - 97) + 1) ∧ ((c - 97) + 1) ≤ 2147483647 from by omega) ?_
      refine fun (z3 : Int) (h4 : -9223372036854775808 ≤ z3 ∧ z3 ≤ 9223372036854775807) => ?_
      exact h.2 _ (fun q => absurd q hx)
  · exact absurd h id
theorem ck_kw (X : zX gKX E) (B : zB E) {x : Int} (hK : ∀ r : Int, ckw (σ 35) x r → K (some (.inl r)) σ) : ∀ (m : Nat) (i : Int), 30 - i < (m : Int) → 0 ≤ i → i ≤ 30 → (∀ j : Int, 0 ≤ j → j < i → ¬ σ 35 j = x) → zGC E md w gm_70 2 [(0, .inr (.inl 7)), (1, .inr (.inr x)), (3, .inl i)] σ K := by
  intro m
  induction m with
  | zero => intro i h; omega
  | succ m ih =>
    intro i hm i0 i1 hn
    refine zbdC (fun hb => zgoC X B zS_nilC [] [(2, [0, 1, 3])] (fun m => Nat.beq m.2.2.2.2.2.2.length 18) (by decide +kernel) ?_)
    refine And.intro (fun (c1 : 30 ≤ i) => ?_) (fun (c2 : i < 30) => ?_)
    · exact hK _ (Or.inl ⟨rfl, fun j j0 j1 => hn j j0 (by omega)⟩)
    · refine And.intro (show 0 ≤ i ∧ i < 30 from by omega) ?_
      refine And.intro (fun (c3 : (σ 35 i) < x) => ?_) (And.intro (fun (c4 : (σ 35 i) = x) => ?_) (fun (c5 : x < (σ 35 i)) => ?_))
      · refine And.intro (fun _ => ?_) (fun (q : (-1) = 0) => absurd q (by decide))
        refine And.intro (show -2147483648 ≤ (i + 1) ∧ (i + 1) ≤ 2147483647 from by omega) ?_
        show zGC E md w gm_70 2 [(0, .inr (.inl 7)), (1, .inr (.inr x)), (3, .inl (i + 1))] σ K
        exact ih (i + 1) (by omega) (by omega) (by omega) (fun j j0 j1 => by
          by_cases e : j = i
          · rw [e]; omega
          · exact hn j j0 (by omega))
      · refine And.intro (fun (q : ¬ 0 = 0) => absurd q (by decide)) (fun _ => ?_)
        exact hK _ (Or.inr ⟨by omega, by omega, hn⟩)
      · refine And.intro (fun _ => ?_) (fun (q : 1 = 0) => absurd q (by decide))
        refine And.intro (show -2147483648 ≤ (i + 1) ∧ (i + 1) ≤ 2147483647 from by omega) ?_
        show zGC E md w gm_70 2 [(0, .inr (.inl 7)), (1, .inr (.inr x)), (3, .inl (i + 1))] σ K
        exact ih (i + 1) (by omega) (by omega) (by omega) (fun j j0 j1 => by
          by_cases e : j = i
          · rw [e]; omega
          · exact hn j j0 (by omega))
theorem ck_70 (X : zX gKX E) (B : zB E) : zOKC E md w 70 cs70 := by
  intro q hq vs σ K h
  cases (show gMT 70 = some (gm_70, 4) from rfl).symm.trans hq
  unfold cs70 at h
  split at h
  · rename_i x
    show zGC E md w gm_70 0 [(0, .inr (.inl 7)), (1, .inr (.inr x))] σ K
    refine zbdC (fun hb => zgoC X B zS_nilC [] [(2, [0, 1, 3])] (fun m => Nat.beq m.2.2.2.2.2.2.length 18) (by decide +kernel) ?_)
    show zGC E md w gm_70 2 [(0, .inr (.inl 7)), (1, .inr (.inr x)), (3, .inl 0)] σ K
    exact ck_kw X B (fun r hr => h r hr) 31 0 (by omega) (by omega) (by omega) (fun j j0 j1 => by omega)
  · exact absurd h id
end ZC2
