/-! BOTH FEED ALIKE -/
noncomputable section
def qby (v s : Int) : Int := (Int32.ofInt (vshr v s)).toInt8.toInt32.toInt
/-- four octets more, the highest first -/
def qp4 (f : Int → Int) (n v : Int) : Int → Int := qup (qup (qup (qup f n (qby v 24)) (n + 1) (qby v 16)) (n + 1 + 1) (qby v 8)) (n + 1 + 1 + 1) (qby v 0)
def qp20 (f : Int → Int) (n a b c d e : Int) : Int → Int := qp4 (qp4 (qp4 (qp4 (qp4 f n a) (n + 4) b) (n + 4 + 4) c) (n + 4 + 4 + 4) d) (n + 4 + 4 + 4 + 4) e
def mdFc : aMd := gc_128_0.2.2.2
def mdFr : aMd := gc_206_0.2.2.2
def vs61 : vSpL := fun vs σ K => match vs with
  | [.inr (.inl 7), .inl v] => (0 ≤ σ 7 1 ∧ σ 7 1 ≤ 936) ∧ ∀ σ2 : vS, σ2 34 = qp4 (σ 34) (σ 7 1) v → σ2 7 1 = σ 7 1 + 4 → K none σ2
  | _ => False
def vs128 : vSpL := fun vs σ K => match vs with
  | [.inr (.inl 11), .inl a, .inl b, .inl c, .inl d, .inl e] => (0 ≤ σ 7 1 ∧ σ 7 1 ≤ 920) ∧ ∀ σ2 : vS, σ2 34 = qp20 (σ 34) (σ 7 1) a b c d e → σ2 7 1 = σ 7 1 + 20 → K (some (.inl (σ 7 1 + 20))) σ2
  | _ => False
def us209 : vSpL := fun vs σ K => match vs with
  | [.inr (.inl 12), .inl v] => (0 ≤ σ 12 2 ∧ σ 12 2 ≤ 936) ∧ ∀ σ2 : vS, σ2 51 = qp4 (σ 51) (σ 12 2) v → σ2 12 2 = σ 12 2 + 4 → (∀ t, ¬ t = 12 → ¬ t = 51 → σ2 t = σ t) → K none σ2
  | _ => False
def us206 : vSpL := fun vs σ K => match vs with
  | [.inr (.inl 12), .inl a, .inl b, .inl c, .inl d, .inl e] => (0 ≤ σ 12 2 ∧ σ 12 2 ≤ 920) ∧ ∀ σ2 : vS, σ2 51 = qp20 (σ 51) (σ 12 2) a b c d e → σ2 12 2 = σ 12 2 + 20 → (∀ t, ¬ t = 12 → ¬ t = 51 → σ2 t = σ t) → K (some (.inl (σ 12 2 + 20))) σ2
  | _ => False
end
theorem i8_b {x : Int} : -128 ≤ (Int32.ofInt x).toInt8.toInt32.toInt ∧ (Int32.ofInt x).toInt8.toInt32.toInt ≤ 127 := by
  rw [Int8.toInt_toInt32]
  have a := Int8.le_toInt (Int32.ofInt x).toInt8
  have b := Int8.toInt_lt (Int32.ofInt x).toInt8
  omega
theorem qup_ful : ful = qup := rfl
section ZV7
variable {E : zE} {w : va_W} {σ : vS} {K : vKL}
set_option maxRecDepth 8192 in
theorem vk_61 (X : zX gKX E) (B : zB E) : zOKC E mdFc w 61 vs61 := by
  intro q hq vs σ K h
  cases (show gMT 61 = some (gm_61, 3) from rfl).symm.trans hq
  unfold vs61 at h
  split at h
  · rename_i v
    show zGC E mdFc w gm_61 0 [(0, .inr (.inl 7)), (1, .inl v)] σ K
    obtain ⟨hL, hK⟩ := h
    refine zbdC (fun hb => zgoC X B zS_nilC [] [] (fun m => false) (by decide +kernel) ?_)
    refine And.intro (fun (q : 24 < 0) => absurd q (by decide)) (fun _ => ?_)
    have f1 : 0 ≤ σ 7 1 ∧ σ 7 1 ≤ 940 := zfC hb (t := 7) (f := 1) (by decide +kernel)
    refine And.intro (fun (c2 : 940 ≤ (σ 7 1)) => ?_) (fun (c3 : (σ 7 1) < 940) => ?_)
    · refine And.intro (show -2147483648 ≤ 16 ∧ 16 ≤ 2147483647 from by omega) ?_
      refine And.intro (fun (q : 16 < 0) => absurd q (by decide)) (fun _ => ?_)
      refine And.intro (fun (c4 : 940 ≤ (σ 7 1)) => ?_) (fun (c5 : (σ 7 1) < 940) => ?_)
      · refine And.intro (show -2147483648 ≤ 8 ∧ 8 ≤ 2147483647 from by omega) ?_
        refine And.intro (fun (q : 8 < 0) => absurd q (by decide)) (fun _ => ?_)
        refine And.intro (fun (c6 : 940 ≤ (σ 7 1)) => ?_) (fun (c7 : (σ 7 1) < 940) => ?_)
        · refine And.intro (show -2147483648 ≤ 0 ∧ 0 ≤ 2147483647 from by omega) ?_
          refine And.intro (fun (q : 0 < 0) => absurd q (by decide)) (fun _ => ?_)
          refine And.intro (fun (c8 : 940 ≤ (σ 7 1)) => ?_) (fun (c9 : (σ 7 1) < 940) => ?_)
          · refine And.intro (show -2147483648 ≤ (-8) ∧ (-8) ≤ 2147483647 from by omega) ?_
            refine And.intro (fun _ => ?_) (fun (q : 0 ≤ (-8)) => absurd q (by decide))
            exfalso; omega
          · refine Or.inr ?_
            refine And.intro (show 0 ≤ (σ 7 1) ∧ (σ 7 1) < 940 from by omega) ?_
            refine And.intro (show -128 ≤ ((Int32.ofInt (vshr v 0)).toInt8.toInt32.toInt) ∧ ((Int32.ofInt (vshr v 0)).toInt8.toInt32.toInt) ≤ 127 from i8_b) ?_
            refine And.intro (show Int.negSucc 127 ≤ ((Int32.ofInt (vshr v 0)).toInt8.toInt32.toInt) ∧ ((Int32.ofInt (vshr v 0)).toInt8.toInt32.toInt) ≤ 127 from rgm (by have := i8_b (x := (vshr v 0)); omega)) ?_
            refine And.intro (show -2147483648 ≤ ((σ 7 1) + 1) ∧ ((σ 7 1) + 1) ≤ 2147483647 from by omega) ?_
            refine And.intro (show 0 ≤ ((σ 7 1) + 1) ∧ ((σ 7 1) + 1) ≤ 940 from by omega) ?_
            refine And.intro (show -2147483648 ≤ (-8) ∧ (-8) ≤ 2147483647 from by omega) ?_
            refine And.intro (fun _ => ?_) (fun (q : 0 ≤ (-8)) => absurd q (by decide))
            exfalso; omega
        · refine Or.inr ?_
          refine And.intro (show 0 ≤ (σ 7 1) ∧ (σ 7 1) < 940 from by omega) ?_
          refine And.intro (show -128 ≤ ((Int32.ofInt (vshr v 8)).toInt8.toInt32.toInt) ∧ ((Int32.ofInt (vshr v 8)).toInt8.toInt32.toInt) ≤ 127 from i8_b) ?_
          refine And.intro (show Int.negSucc 127 ≤ ((Int32.ofInt (vshr v 8)).toInt8.toInt32.toInt) ∧ ((Int32.ofInt (vshr v 8)).toInt8.toInt32.toInt) ≤ 127 from rgm (by have := i8_b (x := (vshr v 8)); omega)) ?_
          refine And.intro (show -2147483648 ≤ ((σ 7 1) + 1) ∧ ((σ 7 1) + 1) ≤ 2147483647 from by omega) ?_
          refine And.intro (show 0 ≤ ((σ 7 1) + 1) ∧ ((σ 7 1) + 1) ≤ 940 from by omega) ?_
          refine And.intro (show -2147483648 ≤ 0 ∧ 0 ≤ 2147483647 from by omega) ?_
          refine And.intro (fun (q : 0 < 0) => absurd q (by decide)) (fun _ => ?_)
          refine And.intro (fun (c10 : 940 ≤ ((σ 7 1) + 1)) => ?_) (fun (c11 : ((σ 7 1) + 1) < 940) => ?_)
          · refine And.intro (show -2147483648 ≤ (-8) ∧ (-8) ≤ 2147483647 from by omega) ?_
            refine And.intro (fun _ => ?_) (fun (q : 0 ≤ (-8)) => absurd q (by decide))
            exfalso; omega
          · refine Or.inr ?_
            refine And.intro (show 0 ≤ ((σ 7 1) + 1) ∧ ((σ 7 1) + 1) < 940 from by omega) ?_
            refine And.intro (show -128 ≤ ((Int32.ofInt (vshr v 0)).toInt8.toInt32.toInt) ∧ ((Int32.ofInt (vshr v 0)).toInt8.toInt32.toInt) ≤ 127 from i8_b) ?_
            refine And.intro (show Int.negSucc 127 ≤ ((Int32.ofInt (vshr v 0)).toInt8.toInt32.toInt) ∧ ((Int32.ofInt (vshr v 0)).toInt8.toInt32.toInt) ≤ 127 from rgm (by have := i8_b (x := (vshr v 0)); omega)) ?_
            refine And.intro (show -2147483648 ≤ (((σ 7 1) + 1) + 1) ∧ (((σ 7 1) + 1) + 1) ≤ 2147483647 from by omega) ?_
            refine And.intro (show 0 ≤ (((σ 7 1) + 1) + 1) ∧ (((σ 7 1) + 1) + 1) ≤ 940 from by omega) ?_
            refine And.intro (show -2147483648 ≤ (-8) ∧ (-8) ≤ 2147483647 from by omega) ?_
            refine And.intro (fun _ => ?_) (fun (q : 0 ≤ (-8)) => absurd q (by decide))
            exfalso; omega
      · refine Or.inr ?_
        refine And.intro (show 0 ≤ (σ 7 1) ∧ (σ 7 1) < 940 from by omega) ?_
        refine And.intro (show -128 ≤ ((Int32.ofInt (vshr v 16)).toInt8.toInt32.toInt) ∧ ((Int32.ofInt (vshr v 16)).toInt8.toInt32.toInt) ≤ 127 from i8_b) ?_
        refine And.intro (show Int.negSucc 127 ≤ ((Int32.ofInt (vshr v 16)).toInt8.toInt32.toInt) ∧ ((Int32.ofInt (vshr v 16)).toInt8.toInt32.toInt) ≤ 127 from rgm (by have := i8_b (x := (vshr v 16)); omega)) ?_
        refine And.intro (show -2147483648 ≤ ((σ 7 1) + 1) ∧ ((σ 7 1) + 1) ≤ 2147483647 from by omega) ?_
        refine And.intro (show 0 ≤ ((σ 7 1) + 1) ∧ ((σ 7 1) + 1) ≤ 940 from by omega) ?_
        refine And.intro (show -2147483648 ≤ 8 ∧ 8 ≤ 2147483647 from by omega) ?_
        refine And.intro (fun (q : 8 < 0) => absurd q (by decide)) (fun _ => ?_)
        refine And.intro (fun (c12 : 940 ≤ ((σ 7 1) + 1)) => ?_) (fun (c13 : ((σ 7 1) + 1) < 940) => ?_)
        · refine And.intro (show -2147483648 ≤ 0 ∧ 0 ≤ 2147483647 from by omega) ?_
          refine And.intro (fun (q : 0 < 0) => absurd q (by decide)) (fun _ => ?_)
          refine And.intro (fun (c14 : 940 ≤ ((σ 7 1) + 1)) => ?_) (fun (c15 : ((σ 7 1) + 1) < 940) => ?_)
          · refine And.intro (show -2147483648 ≤ (-8) ∧ (-8) ≤ 2147483647 from by omega) ?_
            refine And.intro (fun _ => ?_) (fun (q : 0 ≤ (-8)) => absurd q (by decide))
            exfalso; omega
          · refine Or.inr ?_
            refine And.intro (show 0 ≤ ((σ 7 1) + 1) ∧ ((σ 7 1) + 1) < 940 from by omega) ?_
            refine And.intro (show -128 ≤ ((Int32.ofInt (vshr v 0)).toInt8.toInt32.toInt) ∧ ((Int32.ofInt (vshr v 0)).toInt8.toInt32.toInt) ≤ 127 from i8_b) ?_
            refine And.intro (show Int.negSucc 127 ≤ ((Int32.ofInt (vshr v 0)).toInt8.toInt32.toInt) ∧ ((Int32.ofInt (vshr v 0)).toInt8.toInt32.toInt) ≤ 127 from rgm (by have := i8_b (x := (vshr v 0)); omega)) ?_
            refine And.intro (show -2147483648 ≤ (((σ 7 1) + 1) + 1) ∧ (((σ 7 1) + 1) + 1) ≤ 2147483647 from by omega) ?_
            refine And.intro (show 0 ≤ (((σ 7 1) + 1) + 1) ∧ (((σ 7 1) + 1) + 1) ≤ 940 from by omega) ?_
            refine And.intro (show -2147483648 ≤ (-8) ∧ (-8) ≤ 2147483647 from by omega) ?_
            refine And.intro (fun _ => ?_) (fun (q : 0 ≤ (-8)) => absurd q (by decide))
            exfalso; omega
        · refine Or.inr ?_
          refine And.intro (show 0 ≤ ((σ 7 1) + 1) ∧ ((σ 7 1) + 1) < 940 from by omega) ?_
          refine And.intro (show -128 ≤ ((Int32.ofInt (vshr v 8)).toInt8.toInt32.toInt) ∧ ((Int32.ofInt (vshr v 8)).toInt8.toInt32.toInt) ≤ 127 from i8_b) ?_
          refine And.intro (show Int.negSucc 127 ≤ ((Int32.ofInt (vshr v 8)).toInt8.toInt32.toInt) ∧ ((Int32.ofInt (vshr v 8)).toInt8.toInt32.toInt) ≤ 127 from rgm (by have := i8_b (x := (vshr v 8)); omega)) ?_
          refine And.intro (show -2147483648 ≤ (((σ 7 1) + 1) + 1) ∧ (((σ 7 1) + 1) + 1) ≤ 2147483647 from by omega) ?_
          refine And.intro (show 0 ≤ (((σ 7 1) + 1) + 1) ∧ (((σ 7 1) + 1) + 1) ≤ 940 from by omega) ?_
          refine And.intro (show -2147483648 ≤ 0 ∧ 0 ≤ 2147483647 from by omega) ?_
          refine And.intro (fun (q : 0 < 0) => absurd q (by decide)) (fun _ => ?_)
          refine And.intro (fun (c16 : 940 ≤ (((σ 7 1) + 1) + 1)) => ?_) (fun (c17 : (((σ 7 1) + 1) + 1) < 940) => ?_)
          · refine And.intro (show -2147483648 ≤ (-8) ∧ (-8) ≤ 2147483647 from by omega) ?_
            refine And.intro (fun _ => ?_) (fun (q : 0 ≤ (-8)) => absurd q (by decide))
            exfalso; omega
          · refine Or.inr ?_
            refine And.intro (show 0 ≤ (((σ 7 1) + 1) + 1) ∧ (((σ 7 1) + 1) + 1) < 940 from by omega) ?_
            refine And.intro (show -128 ≤ ((Int32.ofInt (vshr v 0)).toInt8.toInt32.toInt) ∧ ((Int32.ofInt (vshr v 0)).toInt8.toInt32.toInt) ≤ 127 from i8_b) ?_
            refine And.intro (show Int.negSucc 127 ≤ ((Int32.ofInt (vshr v 0)).toInt8.toInt32.toInt) ∧ ((Int32.ofInt (vshr v 0)).toInt8.toInt32.toInt) ≤ 127 from rgm (by have := i8_b (x := (vshr v 0)); omega)) ?_
            refine And.intro (show -2147483648 ≤ ((((σ 7 1) + 1) + 1) + 1) ∧ ((((σ 7 1) + 1) + 1) + 1) ≤ 2147483647 from by omega) ?_
            refine And.intro (show 0 ≤ ((((σ 7 1) + 1) + 1) + 1) ∧ ((((σ 7 1) + 1) + 1) + 1) ≤ 940 from by omega) ?_
            refine And.intro (show -2147483648 ≤ (-8) ∧ (-8) ≤ 2147483647 from by omega) ?_
            refine And.intro (fun _ => ?_) (fun (q : 0 ≤ (-8)) => absurd q (by decide))
            exfalso; omega
    · refine Or.inr ?_
      refine And.intro (show 0 ≤ (σ 7 1) ∧ (σ 7 1) < 940 from by omega) ?_
      refine And.intro (show -128 ≤ ((Int32.ofInt (vshr v 24)).toInt8.toInt32.toInt) ∧ ((Int32.ofInt (vshr v 24)).toInt8.toInt32.toInt) ≤ 127 from i8_b) ?_
      refine And.intro (show Int.negSucc 127 ≤ ((Int32.ofInt (vshr v 24)).toInt8.toInt32.toInt) ∧ ((Int32.ofInt (vshr v 24)).toInt8.toInt32.toInt) ≤ 127 from rgm (by have := i8_b (x := (vshr v 24)); omega)) ?_
      refine And.intro (show -2147483648 ≤ ((σ 7 1) + 1) ∧ ((σ 7 1) + 1) ≤ 2147483647 from by omega) ?_
      refine And.intro (show 0 ≤ ((σ 7 1) + 1) ∧ ((σ 7 1) + 1) ≤ 940 from by omega) ?_
      refine And.intro (show -2147483648 ≤ 16 ∧ 16 ≤ 2147483647 from by omega) ?_
      refine And.intro (fun (q : 16 < 0) => absurd q (by decide)) (fun _ => ?_)
      refine And.intro (fun (c18 : 940 ≤ ((σ 7 1) + 1)) => ?_) (fun (c19 : ((σ 7 1) + 1) < 940) => ?_)
      · refine And.intro (show -2147483648 ≤ 8 ∧ 8 ≤ 2147483647 from by omega) ?_
        refine And.intro (fun (q : 8 < 0) => absurd q (by decide)) (fun _ => ?_)
        refine And.intro (fun (c20 : 940 ≤ ((σ 7 1) + 1)) => ?_) (fun (c21 : ((σ 7 1) + 1) < 940) => ?_)
        · refine And.intro (show -2147483648 ≤ 0 ∧ 0 ≤ 2147483647 from by omega) ?_
          refine And.intro (fun (q : 0 < 0) => absurd q (by decide)) (fun _ => ?_)
          refine And.intro (fun (c22 : 940 ≤ ((σ 7 1) + 1)) => ?_) (fun (c23 : ((σ 7 1) + 1) < 940) => ?_)
          · refine And.intro (show -2147483648 ≤ (-8) ∧ (-8) ≤ 2147483647 from by omega) ?_
            refine And.intro (fun _ => ?_) (fun (q : 0 ≤ (-8)) => absurd q (by decide))
            exfalso; omega
          · refine Or.inr ?_
            refine And.intro (show 0 ≤ ((σ 7 1) + 1) ∧ ((σ 7 1) + 1) < 940 from by omega) ?_
            refine And.intro (show -128 ≤ ((Int32.ofInt (vshr v 0)).toInt8.toInt32.toInt) ∧ ((Int32.ofInt (vshr v 0)).toInt8.toInt32.toInt) ≤ 127 from i8_b) ?_
            refine And.intro (show Int.negSucc 127 ≤ ((Int32.ofInt (vshr v 0)).toInt8.toInt32.toInt) ∧ ((Int32.ofInt (vshr v 0)).toInt8.toInt32.toInt) ≤ 127 from rgm (by have := i8_b (x := (vshr v 0)); omega)) ?_
            refine And.intro (show -2147483648 ≤ (((σ 7 1) + 1) + 1) ∧ (((σ 7 1) + 1) + 1) ≤ 2147483647 from by omega) ?_
            refine And.intro (show 0 ≤ (((σ 7 1) + 1) + 1) ∧ (((σ 7 1) + 1) + 1) ≤ 940 from by omega) ?_
            refine And.intro (show -2147483648 ≤ (-8) ∧ (-8) ≤ 2147483647 from by omega) ?_
            refine And.intro (fun _ => ?_) (fun (q : 0 ≤ (-8)) => absurd q (by decide))
            exfalso; omega
        · refine Or.inr ?_
          refine And.intro (show 0 ≤ ((σ 7 1) + 1) ∧ ((σ 7 1) + 1) < 940 from by omega) ?_
          refine And.intro (show -128 ≤ ((Int32.ofInt (vshr v 8)).toInt8.toInt32.toInt) ∧ ((Int32.ofInt (vshr v 8)).toInt8.toInt32.toInt) ≤ 127 from i8_b) ?_
          refine And.intro (show Int.negSucc 127 ≤ ((Int32.ofInt (vshr v 8)).toInt8.toInt32.toInt) ∧ ((Int32.ofInt (vshr v 8)).toInt8.toInt32.toInt) ≤ 127 from rgm (by have := i8_b (x := (vshr v 8)); omega)) ?_
          refine And.intro (show -2147483648 ≤ (((σ 7 1) + 1) + 1) ∧ (((σ 7 1) + 1) + 1) ≤ 2147483647 from by omega) ?_
          refine And.intro (show 0 ≤ (((σ 7 1) + 1) + 1) ∧ (((σ 7 1) + 1) + 1) ≤ 940 from by omega) ?_
          refine And.intro (show -2147483648 ≤ 0 ∧ 0 ≤ 2147483647 from by omega) ?_
          refine And.intro (fun (q : 0 < 0) => absurd q (by decide)) (fun _ => ?_)
          refine And.intro (fun (c24 : 940 ≤ (((σ 7 1) + 1) + 1)) => ?_) (fun (c25 : (((σ 7 1) + 1) + 1) < 940) => ?_)
          · refine And.intro (show -2147483648 ≤ (-8) ∧ (-8) ≤ 2147483647 from by omega) ?_
            refine And.intro (fun _ => ?_) (fun (q : 0 ≤ (-8)) => absurd q (by decide))
            exfalso; omega
          · refine Or.inr ?_
            refine And.intro (show 0 ≤ (((σ 7 1) + 1) + 1) ∧ (((σ 7 1) + 1) + 1) < 940 from by omega) ?_
            refine And.intro (show -128 ≤ ((Int32.ofInt (vshr v 0)).toInt8.toInt32.toInt) ∧ ((Int32.ofInt (vshr v 0)).toInt8.toInt32.toInt) ≤ 127 from i8_b) ?_
            refine And.intro (show Int.negSucc 127 ≤ ((Int32.ofInt (vshr v 0)).toInt8.toInt32.toInt) ∧ ((Int32.ofInt (vshr v 0)).toInt8.toInt32.toInt) ≤ 127 from rgm (by have := i8_b (x := (vshr v 0)); omega)) ?_
            refine And.intro (show -2147483648 ≤ ((((σ 7 1) + 1) + 1) + 1) ∧ ((((σ 7 1) + 1) + 1) + 1) ≤ 2147483647 from by omega) ?_
            refine And.intro (show 0 ≤ ((((σ 7 1) + 1) + 1) + 1) ∧ ((((σ 7 1) + 1) + 1) + 1) ≤ 940 from by omega) ?_
            refine And.intro (show -2147483648 ≤ (-8) ∧ (-8) ≤ 2147483647 from by omega) ?_
            refine And.intro (fun _ => ?_) (fun (q : 0 ≤ (-8)) => absurd q (by decide))
            exfalso; omega
      · refine Or.inr ?_
        refine And.intro (show 0 ≤ ((σ 7 1) + 1) ∧ ((σ 7 1) + 1) < 940 from by omega) ?_
        refine And.intro (show -128 ≤ ((Int32.ofInt (vshr v 16)).toInt8.toInt32.toInt) ∧ ((Int32.ofInt (vshr v 16)).toInt8.toInt32.toInt) ≤ 127 from i8_b) ?_
        refine And.intro (show Int.negSucc 127 ≤ ((Int32.ofInt (vshr v 16)).toInt8.toInt32.toInt) ∧ ((Int32.ofInt (vshr v 16)).toInt8.toInt32.toInt) ≤ 127 from rgm (by have := i8_b (x := (vshr v 16)); omega)) ?_
        refine And.intro (show -2147483648 ≤ (((σ 7 1) + 1) + 1) ∧ (((σ 7 1) + 1) + 1) ≤ 2147483647 from by omega) ?_
        refine And.intro (show 0 ≤ (((σ 7 1) + 1) + 1) ∧ (((σ 7 1) + 1) + 1) ≤ 940 from by omega) ?_
        refine And.intro (show -2147483648 ≤ 8 ∧ 8 ≤ 2147483647 from by omega) ?_
        refine And.intro (fun (q : 8 < 0) => absurd q (by decide)) (fun _ => ?_)
        refine And.intro (fun (c26 : 940 ≤ (((σ 7 1) + 1) + 1)) => ?_) (fun (c27 : (((σ 7 1) + 1) + 1) < 940) => ?_)
        · refine And.intro (show -2147483648 ≤ 0 ∧ 0 ≤ 2147483647 from by omega) ?_
          refine And.intro (fun (q : 0 < 0) => absurd q (by decide)) (fun _ => ?_)
          refine And.intro (fun (c28 : 940 ≤ (((σ 7 1) + 1) + 1)) => ?_) (fun (c29 : (((σ 7 1) + 1) + 1) < 940) => ?_)
          · refine And.intro (show -2147483648 ≤ (-8) ∧ (-8) ≤ 2147483647 from by omega) ?_
            refine And.intro (fun _ => ?_) (fun (q : 0 ≤ (-8)) => absurd q (by decide))
            exfalso; omega
          · refine Or.inr ?_
            refine And.intro (show 0 ≤ (((σ 7 1) + 1) + 1) ∧ (((σ 7 1) + 1) + 1) < 940 from by omega) ?_
            refine And.intro (show -128 ≤ ((Int32.ofInt (vshr v 0)).toInt8.toInt32.toInt) ∧ ((Int32.ofInt (vshr v 0)).toInt8.toInt32.toInt) ≤ 127 from i8_b) ?_
            refine And.intro (show Int.negSucc 127 ≤ ((Int32.ofInt (vshr v 0)).toInt8.toInt32.toInt) ∧ ((Int32.ofInt (vshr v 0)).toInt8.toInt32.toInt) ≤ 127 from rgm (by have := i8_b (x := (vshr v 0)); omega)) ?_
            refine And.intro (show -2147483648 ≤ ((((σ 7 1) + 1) + 1) + 1) ∧ ((((σ 7 1) + 1) + 1) + 1) ≤ 2147483647 from by omega) ?_
            refine And.intro (show 0 ≤ ((((σ 7 1) + 1) + 1) + 1) ∧ ((((σ 7 1) + 1) + 1) + 1) ≤ 940 from by omega) ?_
            refine And.intro (show -2147483648 ≤ (-8) ∧ (-8) ≤ 2147483647 from by omega) ?_
            refine And.intro (fun _ => ?_) (fun (q : 0 ≤ (-8)) => absurd q (by decide))
            exfalso; omega
        · refine Or.inr ?_
          refine And.intro (show 0 ≤ (((σ 7 1) + 1) + 1) ∧ (((σ 7 1) + 1) + 1) < 940 from by omega) ?_
          refine And.intro (show -128 ≤ ((Int32.ofInt (vshr v 8)).toInt8.toInt32.toInt) ∧ ((Int32.ofInt (vshr v 8)).toInt8.toInt32.toInt) ≤ 127 from i8_b) ?_
          refine And.intro (show Int.negSucc 127 ≤ ((Int32.ofInt (vshr v 8)).toInt8.toInt32.toInt) ∧ ((Int32.ofInt (vshr v 8)).toInt8.toInt32.toInt) ≤ 127 from rgm (by have := i8_b (x := (vshr v 8)); omega)) ?_
          refine And.intro (show -2147483648 ≤ ((((σ 7 1) + 1) + 1) + 1) ∧ ((((σ 7 1) + 1) + 1) + 1) ≤ 2147483647 from by omega) ?_
          refine And.intro (show 0 ≤ ((((σ 7 1) + 1) + 1) + 1) ∧ ((((σ 7 1) + 1) + 1) + 1) ≤ 940 from by omega) ?_
          refine And.intro (show -2147483648 ≤ 0 ∧ 0 ≤ 2147483647 from by omega) ?_
          refine And.intro (fun (q : 0 < 0) => absurd q (by decide)) (fun _ => ?_)
          refine And.intro (fun (c30 : 940 ≤ ((((σ 7 1) + 1) + 1) + 1)) => ?_) (fun (c31 : ((((σ 7 1) + 1) + 1) + 1) < 940) => ?_)
          · refine And.intro (show -2147483648 ≤ (-8) ∧ (-8) ≤ 2147483647 from by omega) ?_
            refine And.intro (fun _ => ?_) (fun (q : 0 ≤ (-8)) => absurd q (by decide))
            exfalso; omega
          · refine Or.inr ?_
            refine And.intro (show 0 ≤ ((((σ 7 1) + 1) + 1) + 1) ∧ ((((σ 7 1) + 1) + 1) + 1) < 940 from by omega) ?_
            refine And.intro (show -128 ≤ ((Int32.ofInt (vshr v 0)).toInt8.toInt32.toInt) ∧ ((Int32.ofInt (vshr v 0)).toInt8.toInt32.toInt) ≤ 127 from i8_b) ?_
            refine And.intro (show Int.negSucc 127 ≤ ((Int32.ofInt (vshr v 0)).toInt8.toInt32.toInt) ∧ ((Int32.ofInt (vshr v 0)).toInt8.toInt32.toInt) ≤ 127 from rgm (by have := i8_b (x := (vshr v 0)); omega)) ?_
            refine And.intro (show -2147483648 ≤ (((((σ 7 1) + 1) + 1) + 1) + 1) ∧ (((((σ 7 1) + 1) + 1) + 1) + 1) ≤ 2147483647 from by omega) ?_
            refine And.intro (show 0 ≤ (((((σ 7 1) + 1) + 1) + 1) + 1) ∧ (((((σ 7 1) + 1) + 1) + 1) + 1) ≤ 940 from by omega) ?_
            refine And.intro (show -2147483648 ≤ (-8) ∧ (-8) ≤ 2147483647 from by omega) ?_
            refine And.intro (fun _ => ?_) (fun (q : 0 ≤ (-8)) => absurd q (by decide))
            refine (show K none (vup (vup (vup (vup (vup (vup (vup (vup σ 34 (σ 7 1) ((Int32.ofInt (vshr v 24)).toInt8.toInt32.toInt)) 7 1 ((σ 7 1) + 1)) 34 ((σ 7 1) + 1) ((Int32.ofInt (vshr v 16)).toInt8.toInt32.toInt)) 7 1 (((σ 7 1) + 1) + 1)) 34 (((σ 7 1) + 1) + 1) ((Int32.ofInt (vshr v 8)).toInt8.toInt32.toInt)) 7 1 ((((σ 7 1) + 1) + 1) + 1)) 34 ((((σ 7 1) + 1) + 1) + 1) ((Int32.ofInt (vshr v 0)).toInt8.toInt32.toInt)) 7 1 (((((σ 7 1) + 1) + 1) + 1) + 1)) from ?_)
            exact hK _ (by
              rw [vup_fr (by decide), vup_f, vup_fr (by decide), vup_f, vup_fr (by decide), vup_f, vup_fr (by decide), vup_f, qup_ful]
              rfl) (by rw [vup_eq]; omega)
  · exact absurd h id
set_option maxRecDepth 8192 in
theorem uk_209 (X : zX gKX E) (B : zB E) : zOKL E gJ1 mdFr w 209 us209 := by
  intro q hq vs σ K h
  cases (show gMT 209 = some (gm_209, 3) from rfl).symm.trans hq
  unfold us209 at h
  split at h
  · rename_i v
    show zGL E gJ1 mdFr w gm_209 0 [(0, .inr (.inl 12)), (1, .inl v)] σ K
    obtain ⟨hL, hK⟩ := h
    refine zbdL (fun hb => zgoL X B zS_nilL [] [] (fun m => false) (by decide +kernel) ?_)
    refine And.intro (fun (q : 24 < 0) => absurd q (by decide)) (fun _ => ?_)
    have f1 : 0 ≤ σ 12 2 ∧ σ 12 2 ≤ 940 := zfL B hb (t := 12) (f := 2) (by decide +kernel)
    refine Or.inr ?_
    refine And.intro (show 0 ≤ (σ 12 2) ∧ (σ 12 2) < 940 from by omega) ?_
    refine And.intro (show -128 ≤ ((Int32.ofInt (vshr v 24)).toInt8.toInt32.toInt) ∧ ((Int32.ofInt (vshr v 24)).toInt8.toInt32.toInt) ≤ 127 from i8_b) ?_
    refine And.intro (show Int.negSucc 127 ≤ ((Int32.ofInt (vshr v 24)).toInt8.toInt32.toInt) ∧ ((Int32.ofInt (vshr v 24)).toInt8.toInt32.toInt) ≤ 127 from rgm (by have := i8_b (x := (vshr v 24)); omega)) ?_
    refine And.intro (show -2147483648 ≤ ((σ 12 2) + 1) ∧ ((σ 12 2) + 1) ≤ 2147483647 from by omega) ?_
    refine And.intro (show 0 ≤ ((σ 12 2) + 1) ∧ ((σ 12 2) + 1) ≤ 940 from by omega) ?_
    refine And.intro (show -2147483648 ≤ 16 ∧ 16 ≤ 2147483647 from by omega) ?_
    refine And.intro (fun (q : 16 < 0) => absurd q (by decide)) (fun _ => ?_)
    refine Or.inr ?_
    refine And.intro (show 0 ≤ ((σ 12 2) + 1) ∧ ((σ 12 2) + 1) < 940 from by omega) ?_
    refine And.intro (show -128 ≤ ((Int32.ofInt (vshr v 16)).toInt8.toInt32.toInt) ∧ ((Int32.ofInt (vshr v 16)).toInt8.toInt32.toInt) ≤ 127 from i8_b) ?_
    refine And.intro (show Int.negSucc 127 ≤ ((Int32.ofInt (vshr v 16)).toInt8.toInt32.toInt) ∧ ((Int32.ofInt (vshr v 16)).toInt8.toInt32.toInt) ≤ 127 from rgm (by have := i8_b (x := (vshr v 16)); omega)) ?_
    refine And.intro (show -2147483648 ≤ (((σ 12 2) + 1) + 1) ∧ (((σ 12 2) + 1) + 1) ≤ 2147483647 from by omega) ?_
    refine And.intro (show 0 ≤ (((σ 12 2) + 1) + 1) ∧ (((σ 12 2) + 1) + 1) ≤ 940 from by omega) ?_
    refine And.intro (show -2147483648 ≤ 8 ∧ 8 ≤ 2147483647 from by omega) ?_
    refine And.intro (fun (q : 8 < 0) => absurd q (by decide)) (fun _ => ?_)
    refine Or.inr ?_
    refine And.intro (show 0 ≤ (((σ 12 2) + 1) + 1) ∧ (((σ 12 2) + 1) + 1) < 940 from by omega) ?_
    refine And.intro (show -128 ≤ ((Int32.ofInt (vshr v 8)).toInt8.toInt32.toInt) ∧ ((Int32.ofInt (vshr v 8)).toInt8.toInt32.toInt) ≤ 127 from i8_b) ?_
    refine And.intro (show Int.negSucc 127 ≤ ((Int32.ofInt (vshr v 8)).toInt8.toInt32.toInt) ∧ ((Int32.ofInt (vshr v 8)).toInt8.toInt32.toInt) ≤ 127 from rgm (by have := i8_b (x := (vshr v 8)); omega)) ?_
    refine And.intro (show -2147483648 ≤ ((((σ 12 2) + 1) + 1) + 1) ∧ ((((σ 12 2) + 1) + 1) + 1) ≤ 2147483647 from by omega) ?_
    refine And.intro (show 0 ≤ ((((σ 12 2) + 1) + 1) + 1) ∧ ((((σ 12 2) + 1) + 1) + 1) ≤ 940 from by omega) ?_
    refine And.intro (show -2147483648 ≤ 0 ∧ 0 ≤ 2147483647 from by omega) ?_
    refine And.intro (fun (q : 0 < 0) => absurd q (by decide)) (fun _ => ?_)
    refine Or.inr ?_
    refine And.intro (show 0 ≤ ((((σ 12 2) + 1) + 1) + 1) ∧ ((((σ 12 2) + 1) + 1) + 1) < 940 from by omega) ?_
    refine And.intro (show -128 ≤ ((Int32.ofInt (vshr v 0)).toInt8.toInt32.toInt) ∧ ((Int32.ofInt (vshr v 0)).toInt8.toInt32.toInt) ≤ 127 from i8_b) ?_
    refine And.intro (show Int.negSucc 127 ≤ ((Int32.ofInt (vshr v 0)).toInt8.toInt32.toInt) ∧ ((Int32.ofInt (vshr v 0)).toInt8.toInt32.toInt) ≤ 127 from rgm (by have := i8_b (x := (vshr v 0)); omega)) ?_
    refine And.intro (show -2147483648 ≤ (((((σ 12 2) + 1) + 1) + 1) + 1) ∧ (((((σ 12 2) + 1) + 1) + 1) + 1) ≤ 2147483647 from by omega) ?_
    refine And.intro (show 0 ≤ (((((σ 12 2) + 1) + 1) + 1) + 1) ∧ (((((σ 12 2) + 1) + 1) + 1) + 1) ≤ 940 from by omega) ?_
    refine And.intro (show -2147483648 ≤ (-8) ∧ (-8) ≤ 2147483647 from by omega) ?_
    refine And.intro (fun _ => ?_) (fun (q : 0 ≤ (-8)) => absurd q (by decide))
    refine (show K none (vup (vup (vup (vup (vup (vup (vup (vup σ 51 (σ 12 2) ((Int32.ofInt (vshr v 24)).toInt8.toInt32.toInt)) 12 2 ((σ 12 2) + 1)) 51 ((σ 12 2) + 1) ((Int32.ofInt (vshr v 16)).toInt8.toInt32.toInt)) 12 2 (((σ 12 2) + 1) + 1)) 51 (((σ 12 2) + 1) + 1) ((Int32.ofInt (vshr v 8)).toInt8.toInt32.toInt)) 12 2 ((((σ 12 2) + 1) + 1) + 1)) 51 ((((σ 12 2) + 1) + 1) + 1) ((Int32.ofInt (vshr v 0)).toInt8.toInt32.toInt)) 12 2 (((((σ 12 2) + 1) + 1) + 1) + 1)) from ?_)
    exact hK _ (by
      rw [vup_fr (by decide), vup_f, vup_fr (by decide), vup_f, vup_fr (by decide), vup_f, vup_fr (by decide), vup_f, qup_ful]
      rfl) (by rw [vup_eq]; omega) (fun t h1 h2 => by rw [vup_fr (by omega), vup_fr (by omega), vup_fr (by omega), vup_fr (by omega), vup_fr (by omega), vup_fr (by omega), vup_fr (by omega), vup_fr (by omega)])
  · exact absurd h id
set_option maxRecDepth 8192 in
theorem vk_128 (X : zX gKX E) (B : zB E) : zOKC E mdFc w 128 vs128 := by
  intro q hq vs σ K h
  cases (show gMT 128 = some (gm_128, 6) from rfl).symm.trans hq
  unfold vs128 at h
  split at h
  · rename_i a b c d e
    show zGC E mdFc w gm_128 0 [(0, .inr (.inl 11)), (1, .inl a), (2, .inl b), (3, .inl c), (4, .inl d), (5, .inl e)] σ K
    obtain ⟨hL, hK⟩ := h
    refine zbdC (fun hb => zgoC X B (zS_consC (vk_61 X B) zS_nilC) [] [] (fun m => false) (by decide +kernel) ?_)
    have f1 : 0 ≤ σ 7 1 ∧ σ 7 1 ≤ 940 := zfC hb (t := 7) (f := 1) (by decide +kernel)
    refine And.intro (show -2147483648 ≤ ((σ 7 1) + 20) ∧ ((σ 7 1) + 20) ≤ 2147483647 from by omega) ?_
    refine And.intro (fun (c2 : ((σ 7 1) + 20) ≤ 940) => ?_) (fun (c3 : 940 < ((σ 7 1) + 20)) => ?_)
    · refine ⟨(show 0 ≤ σ 7 1 ∧ σ 7 1 ≤ 936 from by omega), fun (σ1 : vS) (g1 : σ1 34 = qp4 (σ 34) (σ 7 1) a) (l1 : σ1 7 1 = σ 7 1 + 4) => ?_⟩
      refine ⟨(show 0 ≤ σ1 7 1 ∧ σ1 7 1 ≤ 936 from by omega), fun (σ2 : vS) (g2 : σ2 34 = qp4 (σ1 34) (σ1 7 1) b) (l2 : σ2 7 1 = σ1 7 1 + 4) => ?_⟩
      refine ⟨(show 0 ≤ σ2 7 1 ∧ σ2 7 1 ≤ 936 from by omega), fun (σ3 : vS) (g3 : σ3 34 = qp4 (σ2 34) (σ2 7 1) c) (l3 : σ3 7 1 = σ2 7 1 + 4) => ?_⟩
      refine ⟨(show 0 ≤ σ3 7 1 ∧ σ3 7 1 ≤ 936 from by omega), fun (σ4 : vS) (g4 : σ4 34 = qp4 (σ3 34) (σ3 7 1) d) (l4 : σ4 7 1 = σ3 7 1 + 4) => ?_⟩
      refine ⟨(show 0 ≤ σ4 7 1 ∧ σ4 7 1 ≤ 936 from by omega), fun (σ5 : vS) (g5 : σ5 34 = qp4 (σ4 34) (σ4 7 1) e) (l5 : σ5 7 1 = σ4 7 1 + 4) => ?_⟩
      rw [g4, l4, g3, l3, g2, l2, g1, l1] at g5
      refine (show K (some (.inl (σ5 7 1))) σ5 from ?_)
      rw [show σ5 7 1 = σ 7 1 + 20 by omega]
      exact hK _ g5 (by omega)
    · exfalso; omega
  · exact absurd h id
set_option maxRecDepth 8192 in
theorem uk_206 (X : zX gKX E) (B : zB E) : zOKL E gJ1 mdFr w 206 us206 := by
  intro q hq vs σ K h
  cases (show gMT 206 = some (gm_206, 6) from rfl).symm.trans hq
  unfold us206 at h
  split at h
  · rename_i a b c d e
    show zGL E gJ1 mdFr w gm_206 0 [(0, .inr (.inl 12)), (1, .inl a), (2, .inl b), (3, .inl c), (4, .inl d), (5, .inl e)] σ K
    obtain ⟨hL, hK⟩ := h
    refine zbdL (fun hb => zgoL X B (zS_consL (uk_209 X B) zS_nilL) [] [] (fun m => false) (by decide +kernel) ?_)
    refine And.intro (show Int.negSucc 2147483647 ≤ 0 ∧ 0 ≤ 2147483647 from rgm (by omega)) ?_
    have f1 : 0 ≤ σ 12 2 ∧ σ 12 2 ≤ 940 := zfL B hb (t := 12) (f := 2) (by decide +kernel)
    refine And.intro (show -2147483648 ≤ ((σ 12 2) + 20) ∧ ((σ 12 2) + 20) ≤ 2147483647 from by omega) ?_
    refine And.intro (fun (c2 : ((σ 12 2) + 20) ≤ 940) => ?_) (fun (c3 : 940 < ((σ 12 2) + 20)) => ?_)
    · have e2 : (vup σ 12 0 0) 12 2 = σ 12 2 := vup_ne 12 2 (by decide)
      refine ⟨(show 0 ≤ (vup σ 12 0 0) 12 2 ∧ (vup σ 12 0 0) 12 2 ≤ 936 from by omega), fun (σ1 : vS) (g1 : σ1 51 = qp4 ((vup σ 12 0 0) 51) ((vup σ 12 0 0) 12 2) a) (l1 : σ1 12 2 = (vup σ 12 0 0) 12 2 + 4) (f1 : ∀ t, ¬ t = 12 → ¬ t = 51 → σ1 t = (vup σ 12 0 0) t) => ?_⟩
      refine ⟨(show 0 ≤ σ1 12 2 ∧ σ1 12 2 ≤ 936 from by omega), fun (σ2 : vS) (g2 : σ2 51 = qp4 (σ1 51) (σ1 12 2) b) (l2 : σ2 12 2 = σ1 12 2 + 4) (f2 : ∀ t, ¬ t = 12 → ¬ t = 51 → σ2 t = σ1 t) => ?_⟩
      refine ⟨(show 0 ≤ σ2 12 2 ∧ σ2 12 2 ≤ 936 from by omega), fun (σ3 : vS) (g3 : σ3 51 = qp4 (σ2 51) (σ2 12 2) c) (l3 : σ3 12 2 = σ2 12 2 + 4) (f3 : ∀ t, ¬ t = 12 → ¬ t = 51 → σ3 t = σ2 t) => ?_⟩
      refine ⟨(show 0 ≤ σ3 12 2 ∧ σ3 12 2 ≤ 936 from by omega), fun (σ4 : vS) (g4 : σ4 51 = qp4 (σ3 51) (σ3 12 2) d) (l4 : σ4 12 2 = σ3 12 2 + 4) (f4 : ∀ t, ¬ t = 12 → ¬ t = 51 → σ4 t = σ3 t) => ?_⟩
      refine ⟨(show 0 ≤ σ4 12 2 ∧ σ4 12 2 ≤ 936 from by omega), fun (σ5 : vS) (g5 : σ5 51 = qp4 (σ4 51) (σ4 12 2) e) (l5 : σ5 12 2 = σ4 12 2 + 4) (f5 : ∀ t, ¬ t = 12 → ¬ t = 51 → σ5 t = σ4 t) => ?_⟩
      have e0 : (vup σ 12 0 0) 12 2 = σ 12 2 := vup_ne 12 2 (by decide)
      have e51 : (vup σ 12 0 0) 51 = σ 51 := vup_fr (by decide)
      rw [g4, l4, g3, l3, g2, l2, g1, l1, e0, e51] at g5
      refine (show K (some (.inl (σ5 12 2))) σ5 from ?_)
      rw [show σ5 12 2 = σ 12 2 + 20 by omega]
      exact hK _ g5 (by omega) (fun t h1 h2 => by rw [f5 t h1 h2, f4 t h1 h2, f3 t h1 h2, f2 t h1 h2, f1 t h1 h2, vup_fr h1])
    · exfalso; omega
  · exact absurd h id
end ZV7
