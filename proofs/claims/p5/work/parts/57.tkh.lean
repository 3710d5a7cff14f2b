/-! THE REFERENCE READS: peek, isSmall, isDigit, exactly. -/
noncomputable section
/-- the octet at the place, or none -/
def rpk (σ : vS) : Int := if σ 12 4 < σ 12 3 then vand (σ 51 (σ 12 4)) 255 else -1
def rsm (c : Int) : Int := if 97 ≤ c ∧ c ≤ 122 then 1 else 0
def rdg (c : Int) : Int := if 48 ≤ c ∧ c ≤ 57 then 1 else 0
def rs252 : vSpL := fun vs σ K => match vs with
  | [.inr (.inl 12)] => K (some (.inl (rpk σ))) σ
  | _ => False
def rs229 : vSpL := fun vs σ K => match vs with
  | [.inl c] => K (some (.inl (rsm c))) σ
  | _ => False
def rs220 : vSpL := fun vs σ K => match vs with
  | [.inl c] => K (some (.inl (rdg c))) σ
  | _ => False
end
section ZR1
variable {KX : Nat → Nat → Option Int} {E : zE} {J : List aJ} {md : aMd} {w : va_W} {σ : vS} {K : vKL}
abbrev zX (KX : Nat → Nat → Option Int) (E : zE) : Prop := xJOK E.2.2.2.2.2.2.2.1 E.2.2.2.2.2.2.2.2.2.2.1 KX

theorem rk_252 (X : zX KX E) (B : zB E) : zOKL E J md w 252 rs252 := by
  intro q hq vs σ K h
  cases (show gMT 252 = some (gm_252, 1) from rfl).symm.trans hq
  unfold rs252 at h
  split at h
  · show zGL E J md w gm_252 0 [(0, .inr (.inl 12))] σ K
    refine zbdL (fun hb => zgoL X B zS_nilL [] [] (fun m => false) (by decide +kernel) ?_)
    have f1 : 0 ≤ σ 12 4 ∧ σ 12 4 ≤ 940 := zfL B hb (t := 12) (f := 4) (by decide +kernel)
    have f2 : 0 ≤ σ 12 3 ∧ σ 12 3 ≤ 940 := zfL B hb (t := 12) (f := 3) (by decide +kernel)
    refine And.intro (fun (c3 : (σ 12 3) ≤ (σ 12 4)) => ?_) (fun (c4 : (σ 12 4) < (σ 12 3)) => ?_)
    · have e : rpk σ = -1 := by
        unfold rpk
        first
          | rw [if_pos (by omega)]
          | rw [if_neg (by omega)]
      rw [e] at h
      exact h
    · refine And.intro (show 0 ≤ (σ 12 4) ∧ (σ 12 4) < 940 from by omega) ?_
      have f5 : (-128) ≤ σ 51 (σ 12 4) ∧ σ 51 (σ 12 4) ≤ 127 := zbL B hb (t := 51) (a := 0) (n := 940) (i := σ 12 4) (by decide +kernel) (by omega) (by omega)
      have e : rpk σ = vand (σ 51 (σ 12 4)) 255 := by
        unfold rpk
        first
          | rw [if_pos (by omega)]
          | rw [if_neg (by omega)]
      rw [e] at h
      exact h
  · exact absurd h id
theorem rk_229 (X : zX KX E) (B : zB E) : zOKL E J md w 229 rs229 := by
  intro q hq vs σ K h
  cases (show gMT 229 = some (gm_229, 1) from rfl).symm.trans hq
  unfold rs229 at h
  split at h
  · rename_i c
    show zGL E J md w gm_229 0 [(0, .inl c)] σ K
    refine zbdL (fun hb => zgoL X B zS_nilL [] [] (fun m => false) (by decide +kernel) ?_)
    refine And.intro (fun (c1 : c < 97) => ?_) (fun (c2 : 97 ≤ c) => ?_)
    · refine And.intro (show 0 ≤ 0 ∧ 0 ≤ 1 from by omega) ?_
      have e : rsm c = 0 := by
        unfold rsm
        first
          | rw [if_pos (by omega)]
          | rw [if_neg (by omega)]
      rw [e] at h
      exact h
    · refine And.intro (fun (c3 : 122 < c) => ?_) (fun (c4 : c ≤ 122) => ?_)
      · refine And.intro (show 0 ≤ 0 ∧ 0 ≤ 1 from by omega) ?_
        have e : rsm c = 0 := by
          unfold rsm
          first
            | rw [if_pos (by omega)]
            | rw [if_neg (by omega)]
        rw [e] at h
        exact h
      · refine And.intro (show 0 ≤ 1 ∧ 1 ≤ 1 from by omega) ?_
        have e : rsm c = 1 := by
          unfold rsm
          first
            | rw [if_pos (by omega)]
            | rw [if_neg (by omega)]
        rw [e] at h
        exact h
  · exact absurd h id
theorem rk_220 (X : zX KX E) (B : zB E) : zOKL E J md w 220 rs220 := by
  intro q hq vs σ K h
  cases (show gMT 220 = some (gm_220, 1) from rfl).symm.trans hq
  unfold rs220 at h
  split at h
  · rename_i c
    show zGL E J md w gm_220 0 [(0, .inl c)] σ K
    refine zbdL (fun hb => zgoL X B zS_nilL [] [] (fun m => false) (by decide +kernel) ?_)
    refine And.intro (fun (c1 : c < 48) => ?_) (fun (c2 : 48 ≤ c) => ?_)
    · refine And.intro (show 0 ≤ 0 ∧ 0 ≤ 1 from by omega) ?_
      have e : rdg c = 0 := by
        unfold rdg
        first
          | rw [if_pos (by omega)]
          | rw [if_neg (by omega)]
      rw [e] at h
      exact h
    · refine And.intro (fun (c3 : 57 < c) => ?_) (fun (c4 : c ≤ 57) => ?_)
      · refine And.intro (show 0 ≤ 0 ∧ 0 ≤ 1 from by omega) ?_
        have e : rdg c = 0 := by
          unfold rdg
          first
            | rw [if_pos (by omega)]
            | rw [if_neg (by omega)]
        rw [e] at h
        exact h
      · refine And.intro (show 0 ≤ 1 ∧ 1 ≤ 1 from by omega) ?_
        have e : rdg c = 1 := by
          unfold rdg
          first
            | rw [if_pos (by omega)]
            | rw [if_neg (by omega)]
        rw [e] at h
        exact h
  · exact absurd h id
end ZR1
