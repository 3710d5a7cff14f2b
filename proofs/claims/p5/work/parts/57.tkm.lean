/-! THE CLASS READS: byteAt, isBlank, goesOn, exactly. -/
noncomputable section
def cba (σ : vS) (i : Int) : Int := if 0 ≤ i ∧ i < σ 7 1 then vand (σ 34 i) 255 else 0
def cbk (c : Int) : Int := if c = 32 ∨ c = 10 then 1 else 0
def cgo (c : Int) : Int := if (97 ≤ c ∧ c ≤ 122) ∨ (48 ≤ c ∧ c ≤ 57) then 1 else 0
def cs63 : vSpL := fun vs σ K => match vs with
  | [.inr (.inl 7), .inl i] => K (some (.inl (cba σ i))) σ
  | _ => False
def cs67 : vSpL := fun vs σ K => match vs with
  | [.inl c] => K (some (.inl (cbk c))) σ
  | _ => False
def cs66 : vSpL := fun vs σ K => match vs with
  | [.inl c] => K (some (.inl (cgo c))) σ
  | _ => False
end
section ZC1
variable {KX : Nat → Nat → Option Int} {E : zE} {md : aMd} {w : va_W} {σ : vS} {K : vKL}
theorem ck_63 (X : zX KX E) (B : zB E) : zOKC E md w 63 cs63 := by
  intro q hq vs σ K h
  cases (show gMT 63 = some (gm_63, 2) from rfl).symm.trans hq
  unfold cs63 at h
  split at h
  · rename_i i
    show zGC E md w gm_63 0 [(0, .inr (.inl 7)), (1, .inl i)] σ K
    refine zbdC (fun hb => zgoC X B zS_nilC [] [] (fun m => false) (by decide +kernel) ?_)
    refine And.intro (fun (c1 : i < 0) => ?_) (fun (c2 : 0 ≤ i) => ?_)
    · have e : cba σ i = 0 := by
        unfold cba
        first
          | (exfalso; omega)
          | rw [if_pos (by omega)]
          | rw [if_neg (by omega)]
      rw [e] at h
      exact h
    · have f3 : 0 ≤ σ 7 1 ∧ σ 7 1 ≤ 940 := zfC hb (t := 7) (f := 1) (by decide +kernel)
      refine And.intro (fun (c4 : (σ 7 1) ≤ i) => ?_) (fun (c5 : i < (σ 7 1)) => ?_)
      · have e : cba σ i = 0 := by
          unfold cba
          first
            | (exfalso; omega)
            | rw [if_pos (by omega)]
            | rw [if_neg (by omega)]
        rw [e] at h
        exact h
      · refine And.intro (fun (c6 : 940 ≤ i) => ?_) (fun (c7 : i < 940) => ?_)
        · have e : cba σ i = 0 := by
            unfold cba
            first
              | (exfalso; omega)
              | rw [if_pos (by omega)]
              | rw [if_neg (by omega)]
          rw [e] at h
          exact h
        · refine And.intro (show 0 ≤ i ∧ i < 940 from by omega) ?_
          have f8 : (-128) ≤ σ 34 i ∧ σ 34 i ≤ 127 := zbC hb (t := 34) (a := 0) (n := 940) (i := i) (by decide +kernel) (by omega) (by omega)
          have e : cba σ i = vand (σ 34 i) 255 := by
            unfold cba
            first
              | (exfalso; omega)
              | rw [if_pos (by omega)]
              | rw [if_neg (by omega)]
          rw [e] at h
          exact h
  · exact absurd h id
theorem ck_67 (X : zX KX E) (B : zB E) : zOKC E md w 67 cs67 := by
  intro q hq vs σ K h
  cases (show gMT 67 = some (gm_67, 1) from rfl).symm.trans hq
  unfold cs67 at h
  split at h
  · rename_i c
    show zGC E md w gm_67 0 [(0, .inl c)] σ K
    refine zbdC (fun hb => zgoC X B zS_nilC [] [] (fun m => false) (by decide +kernel) ?_)
    refine And.intro (fun (c1 : c = 32) => ?_) (fun (c2 : ¬ c = 32) => ?_)
    · refine And.intro (show 0 ≤ 1 ∧ 1 ≤ 1 from by omega) ?_
      have e : cbk c = 1 := by
        unfold cbk
        first
          | (exfalso; omega)
          | rw [if_pos (by omega)]
          | rw [if_neg (by omega)]
      rw [e] at h
      exact h
    · refine And.intro (fun (c3 : ¬ c = 10) => ?_) (fun (c4 : c = 10) => ?_)
      · refine And.intro (show 0 ≤ 0 ∧ 0 ≤ 1 from by omega) ?_
        have e : cbk c = 0 := by
          unfold cbk
          first
            | (exfalso; omega)
            | rw [if_pos (by omega)]
            | rw [if_neg (by omega)]
        rw [e] at h
        exact h
      · refine And.intro (show 0 ≤ 1 ∧ 1 ≤ 1 from by omega) ?_
        have e : cbk c = 1 := by
          unfold cbk
          first
            | (exfalso; omega)
            | rw [if_pos (by omega)]
            | rw [if_neg (by omega)]
        rw [e] at h
        exact h
  · exact absurd h id
theorem ck_66 (X : zX KX E) (B : zB E) : zOKC E md w 66 cs66 := by
  intro q hq vs σ K h
  cases (show gMT 66 = some (gm_66, 1) from rfl).symm.trans hq
  unfold cs66 at h
  split at h
  · rename_i c
    show zGC E md w gm_66 0 [(0, .inl c)] σ K
    refine zbdC (fun hb => zgoC X B zS_nilC [] [] (fun m => false) (by decide +kernel) ?_)
    refine And.intro (fun (c1 : c < 97) => ?_) (fun (c2 : 97 ≤ c) => ?_)
    · refine And.intro (fun (c3 : c < 48) => ?_) (fun (c4 : 48 ≤ c) => ?_)
      · refine And.intro (show 0 ≤ 0 ∧ 0 ≤ 1 from by omega) ?_
        have e : cgo c = 0 := by
          unfold cgo
          first
            | (exfalso; omega)
            | rw [if_pos (by omega)]
            | rw [if_neg (by omega)]
        rw [e] at h
        exact h
      · refine And.intro (fun (c5 : 57 < c) => ?_) (fun (c6 : c ≤ 57) => ?_)
        · refine And.intro (show 0 ≤ 0 ∧ 0 ≤ 1 from by omega) ?_
          have e : cgo c = 0 := by
            unfold cgo
            first
              | (exfalso; omega)
              | rw [if_pos (by omega)]
              | rw [if_neg (by omega)]
          rw [e] at h
          exact h
        · refine And.intro (show 0 ≤ 1 ∧ 1 ≤ 1 from by omega) ?_
          have e : cgo c = 1 := by
            unfold cgo
            first
              | (exfalso; omega)
              | rw [if_pos (by omega)]
              | rw [if_neg (by omega)]
          rw [e] at h
          exact h
    · refine And.intro (fun (c7 : c ≤ 122) => ?_) (fun (c8 : 122 < c) => ?_)
      · refine And.intro (show 0 ≤ 1 ∧ 1 ≤ 1 from by omega) ?_
        have e : cgo c = 1 := by
          unfold cgo
          first
            | (exfalso; omega)
            | rw [if_pos (by omega)]
            | rw [if_neg (by omega)]
        rw [e] at h
        exact h
      · refine And.intro (fun (c9 : c < 48) => ?_) (fun (c10 : 48 ≤ c) => ?_)
        · refine And.intro (show 0 ≤ 0 ∧ 0 ≤ 1 from by omega) ?_
          have e : cgo c = 0 := by
            unfold cgo
            first
              | (exfalso; omega)
              | rw [if_pos (by omega)]
              | rw [if_neg (by omega)]
          rw [e] at h
          exact h
        · refine And.intro (fun (c11 : 57 < c) => ?_) (fun (c12 : c ≤ 57) => ?_)
          · refine And.intro (show 0 ≤ 0 ∧ 0 ≤ 1 from by omega) ?_
            have e : cgo c = 0 := by
              unfold cgo
              first
                | (exfalso; omega)
                | rw [if_pos (by omega)]
                | rw [if_neg (by omega)]
            rw [e] at h
            exact h
          · refine And.intro (show 0 ≤ 1 ∧ 1 ≤ 1 from by omega) ?_
            have e : cgo c = 1 := by
              unfold cgo
              first
                | (exfalso; omega)
                | rw [if_pos (by omega)]
                | rw [if_neg (by omega)]
            rw [e] at h
            exact h
  · exact absurd h id
end ZC1
