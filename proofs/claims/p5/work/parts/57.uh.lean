/-! THE REFERENCE READS A TERRACE: terrace. -/
noncomputable section
def q0 (f : Int → Int) : qS := (0, fun _ => 0, fun i => f (24 + i))
def us278 : vSpL := fun vs σ K => match vs with
  | [.inr (.inl 12)] => vX σ ∧ (∀ j : Int, 0 ≤ j → j < 30 → σ 56 j = qrw j) ∧ ((qloop (rtx σ, σ 12 2, 900) 1000 0 (q0 (σ 55))).2.1 = 0 → ∀ σ2, vX σ2 → σ2 12 2 = 0 → σ2 12 15 = 0 → (∀ i : Int, 0 ≤ i → i < 5 → σ2 52 i = (qloop (rtx σ, σ 12 2, 900) 1000 0 (q0 (σ 55))).2.2.2.1 i) → (∀ i : Int, 0 ≤ i → i < 24 → σ2 55 i = (qloop (rtx σ, σ 12 2, 900) 1000 0 (q0 (σ 55))).2.2.2.2 i) → K (some (.inl (qloop (rtx σ, σ 12 2, 900) 1000 0 (q0 (σ 55))).1)) σ2) ∧ (¬ (qloop (rtx σ, σ 12 2, 900) 1000 0 (q0 (σ 55))).2.1 = 0 → ∀ σ2, vX σ2 → σ2 12 2 = 0 → σ2 12 15 = (qloop (rtx σ, σ 12 2, 900) 1000 0 (q0 (σ 55))).2.1 → σ2 52 = σ 52 → (∀ i : Int, 0 ≤ i → i < 24 → σ2 55 i = σ 55 i) → K (some (.inl (qloop (rtx σ, σ 12 2, 900) 1000 0 (q0 (σ 55))).1)) σ2)
  | _ => False
def uRT : List (Nat × vSpL) := (237, us237) :: (270, us270) :: (271, rs271) :: []
/-- the TERRACE that stands stays -/
def rfx (σ0 σ : vS) : Prop := σ 52 = σ0 52 ∧ ∀ i : Int, 0 ≤ i → i < 24 → σ 55 i = σ0 55 i
end
theorem rfx_l {σ0 σ1 σ2 : vS} (h : rfx σ0 σ1) (g : rgl σ1 σ2) : rfx σ0 σ2 := ⟨g.2.1.trans h.1, fun i a b => (g.2.2 i a b).trans (h.2 i a b)⟩
theorem rT_19 {x : qX} {p v : Int} {σ : vS} (h : rT x p σ) : rT x p (vup σ 12 19 v) := by
  obtain ⟨⟨⟨h1, h2, h3, h4, h5⟩, h6, h7⟩, h8, h9⟩ := h
  have e : ∀ i : Int, ¬ i = 19 → vup σ 12 19 v 12 i = σ 12 i := fun i hi => vup_ne 12 i (fun q => hi q.2)
  refine ⟨⟨⟨?_, (e 3 (by decide)).trans h2, (e 5 (by decide)).trans h3, (e 2 (by decide)).trans h4, vX_fr h5 (vup_fr (by decide)) (vup_fr (by decide))⟩, fun j a b => by rw [vup_fr (by decide)]; exact h6 j a b, (e 15 (by decide)).trans h7⟩, qTr_eq h8 (fun i hi => e i (by omega)), h9⟩
  rw [← h1]
  unfold rtx
  rw [vup_fr (by decide)]
/-- a LINE leads to where no more than there are octets can have been -/
theorem qfull_f {x : qX} {S : qS} (h : ¬ (qline x S).1 = 0) : qfull x S = qline x S := if_neg h
theorem qfull_s {x : qX} {S : qS} (h : (qline x S).1 = 0) (hs : qSign x (qline x S).2 59 = true) : qfull x S = (0, qadv x (qline x S).2) := (if_pos h).trans (if_pos hs)
theorem qfull_n {x : qX} {S : qS} (h : (qline x S).1 = 0) (hs : qSign x (qline x S).2 59 = false) : qfull x S = (1, (qline x S).2) := (if_pos h).trans (if_neg (by rw [hs]; exact Bool.false_ne_true))
theorem qloop_e {x : qX} {k : Nat} {l : Int} {S : qS} (h : qtk x S = 0) : qloop x (k + 1) l S = (l, 0, S) := if_pos h
theorem qloop_g {x : qX} {k : Nat} {l : Int} {S : qS} (h : ¬ qtk x S = 0) (h2 : (qfull x S).1 = 0) : qloop x (k + 1) l S = qloop x k (l + 1) (qfull x S).2 := (if_neg h).trans (if_pos h2)
theorem qloop_f {x : qX} {k : Nat} {l : Int} {S : qS} (h : ¬ qtk x S = 0) (h2 : ¬ (qfull x S).1 = 0) : qloop x (k + 1) l S = (-1 - qat x.1 x.2.1 x.2.2 (qfull x S).2.1, (qfull x S).1, (qfull x S).2) := (if_neg h).trans (if_neg h2)
theorem r52_h : ((List.range 179).all fun j => match rgAt (zrg 52) j, rgAt (zrg 53) j with
    | some a, some b => decide (a.1 ≤ b.1 ∧ b.2 ≤ a.2)
    | _, _ => false) = true := by decide +kernel
theorem r52_0 : ((List.range 402).all fun j => match rgAt (zrg 52) j with
    | some a => decide (a.1 ≤ 0 ∧ 0 ≤ a.2)
    | _ => false) = true := by decide +kernel
theorem rg52_z {i : Int} (h0 : 0 ≤ i) (h1 : i < 402) : vRg (zrg 52) i 0 := by
  show ∀ q, rgAt (zrg 52) i.toNat = some q → q.1 ≤ 0 ∧ 0 ≤ q.2
  intro q hq
  have h := List.all_eq_true.mp r52_0 i.toNat (List.mem_range.mpr (by omega))
  rw [hq] at h
  exact decide_eq_true_iff.mp h
theorem r53_0 : ((List.range 179).all fun j => match rgAt (zrg 53) j with
    | some a => decide (a.1 ≤ 0 ∧ 0 ≤ a.2)
    | _ => false) = true := by decide +kernel
theorem rg53_z {i : Int} (h0 : 0 ≤ i) (h1 : i < 179) : vRg (zrg 53) i 0 := by
  show ∀ q, rgAt (zrg 53) i.toNat = some q → q.1 ≤ 0 ∧ 0 ≤ q.2
  intro q hq
  have h := List.all_eq_true.mp r53_0 i.toNat (List.mem_range.mpr (by omega))
  rw [hq] at h
  exact decide_eq_true_iff.mp h
theorem rg52 {i v : Int} {a b : Nat} {lo hi : Int} (hk : ((List.range b).all fun j => Nat.blt j a || (match rgAt (zrg 52) j with
    | some q => ieq q.1 lo && ieq q.2 hi
    | none => false)) = true) (h1 : (a : Int) ≤ i) (h2 : i < (b : Int)) (hv : lo ≤ v ∧ v ≤ hi) : vRg (zrg 52) i v := by
  show ∀ q, rgAt (zrg 52) i.toNat = some q → q.1 ≤ v ∧ v ≤ q.2
  intro q hq
  have k3 := List.all_eq_true.mp hk i.toNat (List.mem_range.mpr (by omega))
  rw [Bool.or_eq_true] at k3
  rcases k3 with k3 | k3
  · have : i.toNat < a := Nat.le_of_ble_eq_true k3
    omega
  · rw [hq] at k3
    have k3 : (ieq q.1 lo && ieq q.2 hi) = true := k3
    rw [Bool.and_eq_true, ieq_iff, ieq_iff] at k3
    rw [k3.1, k3.2]
    exact hv
section ZU5
variable {E : zE} {w : va_W} {σ : vS} {K : vKL}
theorem rg52_h (B : zB E) (hb : vBdL (zso E) gST zuq σ) {i : Int} (h0 : 0 ≤ i) (h1 : i < 179) : vRg (zrg 52) i (σ 53 i) := by
  show ∀ q, rgAt (zrg 52) i.toNat = some q → q.1 ≤ σ 53 i ∧ σ 53 i ≤ q.2
  intro q hq
  have h := List.all_eq_true.mp r52_h i.toNat (List.mem_range.mpr (by omega))
  obtain ⟨ob, hob, e1, e2, e3⟩ : ∃ ob, gST 53 = some (.inr ob) ∧ ob.1 < 3 ∧ ob.2.1 = 179 ∧ ob.2.2.1 = zrg 53 := ⟨_, rfl, by decide, rfl, rfl⟩
  obtain ⟨q2, g1, g2⟩ := (hb 53 rfl (B.2.2.2.2.2.2.2 53 rfl)).2 ob hob e1 i.toNat (by omega)
  rw [e3] at g1
  rw [hq, g1] at h
  have h := decide_eq_true_iff.mp h
  have e : ((i.toNat : Nat) : Int) = i := by omega
  rw [e] at g2
  exact ⟨Int.le_trans h.1 g2.1, Int.le_trans g2.2 h.2⟩
theorem uRT_ok (X : zX gKX E) (B : zB E) : zSL E gJ1 mdT w uRT := zS_consL (uk_237 X B) (zS_consL (uk_270 X B) (zS_consL (rk_271 X B) zS_nilL))
set_option maxRecDepth 8192 in
theorem uk_278F (X : zX gKX E) (B : zB E) {h nm : Int → Int} {l : Int} (hK : ∀ σ2 : vS, vX σ2 → σ2 12 2 = 0 → σ2 12 15 = 0 → (∀ i : Int, 0 ≤ i → i < 5 → σ2 52 i = h i) → (∀ i : Int, 0 ≤ i → i < 24 → σ2 55 i = nm i) → K (some (.inl l)) σ2) : ∀ (m : Nat) (i : Int) (σ : vS), 6 - i < (m : Int) → 0 ≤ i → i ≤ 6 → σ 12 2 = 0 → σ 12 15 = 0 → σ 12 19 = l → xVPz (σ 74) 221 → xVPz (σ 74) 623 → σ 52 221 = 0 → (∀ i : Int, 0 ≤ i → i < 5 → σ 52 i = h i) → (∀ i : Int, 0 ≤ i → i < 24 → σ 55 i = nm i) → zGL E gJ1 mdT w gm_278 193 [(0, .inr (.inl 12)), (1, .inl i)] σ K := by
  intro m
  induction m with
  | zero => intro i σ h; omega
  | succ m ih =>
    intro i σ hm i0 i1 k2 k15 k19 x1 x2 k221 kh kn
    refine zbdL (fun hb0 => ?_)
    have a89 : i < 6 → 0 ≤ σ 52 (89 + i) ∧ σ 52 (89 + i) ≤ 12 := fun q => zbL B hb0 (t := 52) (a := 89) (n := 95) (i := 89 + i) (by decide +kernel) (by omega) (by omega)
    have a95 : i < 6 → -2147483648 ≤ σ 52 (95 + i) ∧ σ 52 (95 + i) ≤ 2147483647 := fun q => zbL B hb0 (t := 52) (a := 95) (n := 101) (i := 95 + i) (by decide +kernel) (by omega) (by omega)
    have a101 : i < 6 → 0 ≤ σ 52 (101 + i) ∧ σ 52 (101 + i) ≤ 6 := fun q => zbL B hb0 (t := 52) (a := 101) (n := 107) (i := 101 + i) (by decide +kernel) (by omega) (by omega)
    have v95 : vup σ 52 (197 + i) (σ 52 (89 + i)) 52 (95 + i) = σ 52 (95 + i) := vup_ne 52 (95 + i) (fun q => by have := q.2; omega)
    have v101 : vup (vup σ 52 (197 + i) (σ 52 (89 + i))) 52 (203 + i) (vup σ 52 (197 + i) (σ 52 (89 + i)) 52 (95 + i)) 52 (101 + i) = σ 52 (101 + i) := (vup_ne 52 (101 + i) (fun q => by have := q.2; omega)).trans (vup_ne 52 (101 + i) (fun q => by have := q.2; omega))
    refine zbdL (fun hb => zgoL X B (uRT_ok X B) [] [(24, [0, 1]), (48, [0]), (93, [0, 1]), (131, [0, 1]), (160, [0, 1]), (193, [0, 1])] (fun m => Nat.beq m.2.2.2.2.2.2.length 153) (by decide +kernel) ?_)
    refine And.intro (fun (c1 : 6 ≤ i) => ?_) (fun (c2 : i < 6) => ?_)
    · refine And.intro (show 0 ≤ 0 ∧ 0 ≤ 8 from by omega) ?_
      have f3 : (-2147483648) ≤ σ 12 19 ∧ σ 12 19 ≤ 2147483647 := zfL B hb (t := 12) (f := 19) (by decide +kernel)
      show K (some (.inl (σ 12 19))) (vup σ 12 22 0)
      rw [k19]
      exact hK _ ⟨fun j hj => by
        have hj : (j : Int) < σ 52 221 := hj
        omega, x1, x2⟩ k2 k15 kh kn
    · refine And.intro (show -2147483648 ≤ (197 + i) ∧ (197 + i) ≤ 2147483647 from by omega) ?_
      refine And.intro (show -2147483648 ≤ (89 + i) ∧ (89 + i) ≤ 2147483647 from by omega) ?_
      refine And.intro (show 0 ≤ (89 + i) ∧ (89 + i) < 402 from by omega) ?_
      have f4 : 0 ≤ σ 52 (89 + i) ∧ σ 52 (89 + i) ≤ 12 := zbL B hb (t := 52) (a := 89) (n := 95) (i := 89 + i) (by decide +kernel) (by omega) (by omega)
      refine And.intro (show 0 ≤ (197 + i) ∧ (197 + i) < 402 from by omega) ?_
      refine And.intro (show vRg (zrg 52) (197 + i) (σ 52 (89 + i)) from rg52 (a := 197) (b := 203) (lo := 0) (hi := 12) (by decide +kernel) (by omega) (by omega) (by omega)) ?_
      refine And.intro (show -2147483648 ≤ (203 + i) ∧ (203 + i) ≤ 2147483647 from by omega) ?_
      refine And.intro (show -2147483648 ≤ (95 + i) ∧ (95 + i) ≤ 2147483647 from by omega) ?_
      refine And.intro (show 0 ≤ (95 + i) ∧ (95 + i) < 402 from by omega) ?_
      refine And.intro (show 0 ≤ (203 + i) ∧ (203 + i) < 402 from by omega) ?_
      refine And.intro (show vRg (zrg 52) (203 + i) ((vup σ 52 (197 + i) (σ 52 (89 + i))) 52 (95 + i)) from rg52 (a := 203) (b := 209) (lo := (-2147483648)) (hi := 2147483647) (by decide +kernel) (by omega) (by omega) (by rw [v95]; omega)) ?_
      refine And.intro (show -2147483648 ≤ (209 + i) ∧ (209 + i) ≤ 2147483647 from by omega) ?_
      refine And.intro (show -2147483648 ≤ (101 + i) ∧ (101 + i) ≤ 2147483647 from by omega) ?_
      refine And.intro (show 0 ≤ (101 + i) ∧ (101 + i) < 402 from by omega) ?_
      refine And.intro (show 0 ≤ (209 + i) ∧ (209 + i) < 402 from by omega) ?_
      refine And.intro (show vRg (zrg 52) (209 + i) ((vup (vup σ 52 (197 + i) (σ 52 (89 + i))) 52 (203 + i) ((vup σ 52 (197 + i) (σ 52 (89 + i))) 52 (95 + i))) 52 (101 + i)) from rg52 (a := 209) (b := 215) (lo := 0) (hi := 6) (by decide +kernel) (by omega) (by omega) (by rw [v101]; omega)) ?_
      refine And.intro (show -2147483648 ≤ (i + 1) ∧ (i + 1) ≤ 2147483647 from by omega) ?_
      show zGL E gJ1 mdT w gm_278 193 [(0, .inr (.inl 12)), (1, .inl (i + 1))] (vup (vup (vup σ 52 (197 + i) (σ 52 (89 + i))) 52 (203 + i) ((vup σ 52 (197 + i) (σ 52 (89 + i))) 52 (95 + i))) 52 (209 + i) ((vup (vup σ 52 (197 + i) (σ 52 (89 + i))) 52 (203 + i) ((vup σ 52 (197 + i) (σ 52 (89 + i))) 52 (95 + i))) 52 (101 + i))) K
      exact ih (i + 1) _ (by omega) (by omega) (by omega) k2 k15 k19 x1 x2 (((vup_ne 52 221 (fun q => by have := q.2; omega)).trans ((vup_ne 52 221 (fun q => by have := q.2; omega)).trans (vup_ne 52 221 (fun q => by have := q.2; omega)))).trans k221) (fun j a b => ((vup_ne 52 j (fun q => by have := q.2; omega)).trans ((vup_ne 52 j (fun q => by have := q.2; omega)).trans (vup_ne 52 j (fun q => by have := q.2; omega)))).trans (kh j a b)) (fun j a b => kn j a b)
set_option maxRecDepth 8192 in
theorem uk_278E (X : zX gKX E) (B : zB E) {h nm : Int → Int} {l : Int} (hK : ∀ σ2 : vS, vX σ2 → σ2 12 2 = 0 → σ2 12 15 = 0 → (∀ i : Int, 0 ≤ i → i < 5 → σ2 52 i = h i) → (∀ i : Int, 0 ≤ i → i < 24 → σ2 55 i = nm i) → K (some (.inl l)) σ2) : ∀ (m : Nat) (i : Int) (σ : vS), 12 - i < (m : Int) → 0 ≤ i → i ≤ 12 → σ 12 2 = 0 → σ 12 15 = 0 → σ 12 19 = l → xVPz (σ 74) 221 → xVPz (σ 74) 623 → σ 52 221 = 0 → (∀ i : Int, 0 ≤ i → i < 5 → σ 52 i = h i) → (∀ i : Int, 0 ≤ i → i < 24 → σ 55 i = nm i) → zGL E gJ1 mdT w gm_278 160 [(0, .inr (.inl 12)), (1, .inl i)] σ K := by
  intro m
  induction m with
  | zero => intro i σ h; omega
  | succ m ih =>
    intro i σ hm i0 i1 k2 k15 k19 x1 x2 k221 kh kn
    refine zbdL (fun hb => zgoL X B (uRT_ok X B) [] [(24, [0, 1]), (48, [0]), (93, [0, 1]), (131, [0, 1]), (160, [0, 1]), (193, [0, 1])] (fun m => Nat.beq m.2.2.2.2.2.2.length 153) (by decide +kernel) ?_)
    refine And.intro (fun (c1 : 12 ≤ i) => ?_) (fun (c2 : i < 12) => ?_)
    · show zGL E gJ1 mdT w gm_278 193 [(0, .inr (.inl 12)), (1, .inl 0)] σ K
      exact uk_278F X B hK 7 0 _ (by omega) (by omega) (by omega) k2 k15 k19 x1 x2 k221 kh kn
    · refine And.intro (show -2147483648 ≤ (185 + i) ∧ (185 + i) ≤ 2147483647 from by omega) ?_
      refine And.intro (show -2147483648 ≤ (17 + i) ∧ (17 + i) ≤ 2147483647 from by omega) ?_
      refine And.intro (show 0 ≤ (17 + i) ∧ (17 + i) < 402 from by omega) ?_
      have f3 : 0 ≤ σ 52 (17 + i) ∧ σ 52 (17 + i) ≤ 6 := zbL B hb (t := 52) (a := 17) (n := 29) (i := 17 + i) (by decide +kernel) (by omega) (by omega)
      refine And.intro (show 0 ≤ (185 + i) ∧ (185 + i) < 402 from by omega) ?_
      refine And.intro (show vRg (zrg 52) (185 + i) (σ 52 (17 + i)) from rg52 (a := 185) (b := 197) (lo := 0) (hi := 6) (by decide +kernel) (by omega) (by omega) (by omega)) ?_
      refine And.intro (show -2147483648 ≤ (i + 1) ∧ (i + 1) ≤ 2147483647 from by omega) ?_
      show zGL E gJ1 mdT w gm_278 160 [(0, .inr (.inl 12)), (1, .inl (i + 1))] (vup σ 52 (185 + i) (σ 52 (17 + i))) K
      exact ih (i + 1) _ (by omega) (by omega) (by omega) k2 k15 k19 x1 x2 ((vup_ne 52 221 (fun q => by have := q.2; omega)).trans k221) (fun j a b => (vup_ne 52 j (fun q => by have := q.2; omega)).trans (kh j a b)) (fun j a b => kn j a b)
set_option maxRecDepth 8192 in
theorem uk_278D (X : zX gKX E) (B : zB E) {h nm : Int → Int} {l : Int} (hK : ∀ σ2 : vS, vX σ2 → σ2 12 2 = 0 → σ2 12 15 = 0 → (∀ i : Int, 0 ≤ i → i < 5 → σ2 52 i = h i) → (∀ i : Int, 0 ≤ i → i < 24 → σ2 55 i = nm i) → K (some (.inl l)) σ2) : ∀ (m : Nat) (i : Int) (σ : vS), 24 - i < (m : Int) → 0 ≤ i → i ≤ 24 → σ 12 2 = 0 → σ 12 15 = 0 → σ 12 19 = l → xVPz (σ 74) 221 → xVPz (σ 74) 623 → σ 52 221 = 0 → (∀ i : Int, 0 ≤ i → i < 5 → σ 52 i = h i) → (∀ j : Int, 0 ≤ j → j < i → σ 55 j = nm j) → (∀ j : Int, 0 ≤ j → j < 24 → σ 55 (24 + j) = nm j) → zGL E gJ1 mdT w gm_278 131 [(0, .inr (.inl 12)), (1, .inl i)] σ K := by
  intro m
  induction m with
  | zero => intro i σ h; omega
  | succ m ih =>
    intro i σ hm i0 i1 k2 k15 k19 x1 x2 k221 kh kn kq
    refine zbdL (fun hb => zgoL X B (uRT_ok X B) [] [(24, [0, 1]), (48, [0]), (93, [0, 1]), (131, [0, 1]), (160, [0, 1]), (193, [0, 1])] (fun m => Nat.beq m.2.2.2.2.2.2.length 153) (by decide +kernel) ?_)
    refine And.intro (fun (c1 : 24 ≤ i) => ?_) (fun (c2 : i < 24) => ?_)
    · show zGL E gJ1 mdT w gm_278 160 [(0, .inr (.inl 12)), (1, .inl 0)] σ K
      exact uk_278E X B hK 13 0 _ (by omega) (by omega) (by omega) k2 k15 k19 x1 x2 k221 kh (fun j a b => kn j a (by omega))
    · refine And.intro (show -2147483648 ≤ (24 + i) ∧ (24 + i) ≤ 2147483647 from by omega) ?_
      refine And.intro (show 0 ≤ (24 + i) ∧ (24 + i) < 48 from by omega) ?_
      refine And.intro (show 0 ≤ i ∧ i < 48 from by omega) ?_
      refine And.intro (show -2147483648 ≤ (i + 1) ∧ (i + 1) ≤ 2147483647 from by omega) ?_
      show zGL E gJ1 mdT w gm_278 131 [(0, .inr (.inl 12)), (1, .inl (i + 1))] (vup σ 55 i (σ 55 (24 + i))) K
      exact ih (i + 1) _ (by omega) (by omega) (by omega) k2 k15 k19 x1 x2 k221 kh (fun j a b => by
        by_cases e : j = i
        · rw [e]; exact (vup_eq).trans (kq i i0 (by omega))
        · exact (vup_ne 55 j (fun q => e q.2)).trans (kn j a (by omega))) (fun j a b => (vup_ne 55 (24 + j) (fun q => by have := q.2; omega)).trans (kq j a b))
set_option maxRecDepth 8192 in
theorem uk_278C (X : zX gKX E) (B : zB E) {h nm : Int → Int} {l : Int} (hK : ∀ σ2 : vS, vX σ2 → σ2 12 2 = 0 → σ2 12 15 = 0 → (∀ i : Int, 0 ≤ i → i < 5 → σ2 52 i = h i) → (∀ i : Int, 0 ≤ i → i < 24 → σ2 55 i = nm i) → K (some (.inl l)) σ2) : ∀ (m : Nat) (i : Int) (σ : vS), 402 - i < (m : Int) → 0 ≤ i → i ≤ 402 → σ 12 2 = 0 → σ 12 15 = 0 → σ 12 19 = l → xVPz (σ 74) 221 → xVPz (σ 74) 623 → (221 < i → σ 52 221 = 0) → (∀ j : Int, 0 ≤ j → j < i → j < 5 → σ 52 j = h j) → (∀ j : Int, 0 ≤ j → j < 5 → σ 53 j = h j) → (∀ j : Int, 0 ≤ j → j < 24 → σ 55 (24 + j) = nm j) → zGL E gJ1 mdT w gm_278 93 [(0, .inr (.inl 12)), (1, .inl i)] σ K := by
  intro m
  induction m with
  | zero => intro i σ h; omega
  | succ m ih =>
    intro i σ hm i0 i1 k2 k15 k19 x1 x2 k221 kh kq kn
    refine zbdL (fun hb => zgoL X B (uRT_ok X B) [] [(24, [0, 1]), (48, [0]), (93, [0, 1]), (131, [0, 1]), (160, [0, 1]), (193, [0, 1])] (fun m => Nat.beq m.2.2.2.2.2.2.length 153) (by decide +kernel) ?_)
    refine And.intro (fun (c1 : 402 ≤ i) => ?_) (fun (c2 : i < 402) => ?_)
    · show zGL E gJ1 mdT w gm_278 131 [(0, .inr (.inl 12)), (1, .inl 0)] σ K
      exact uk_278D X B hK 25 0 _ (by omega) (by omega) (by omega) k2 k15 k19 x1 x2 (k221 (by omega)) (fun j a b => kh j a (by omega) b) (fun j a b => by omega) kn
    · refine And.intro (fun (c3 : 179 ≤ i) => ?_) (fun (c4 : i < 179) => ?_)
      · refine And.intro (show 0 ≤ i ∧ i < 402 from by omega) ?_
        refine And.intro (show vRg (zrg 52) i 0 from rg52_z (by omega) (by omega)) ?_
        refine And.intro (show -2147483648 ≤ (i + 1) ∧ (i + 1) ≤ 2147483647 from by omega) ?_
        show zGL E gJ1 mdT w gm_278 93 [(0, .inr (.inl 12)), (1, .inl (i + 1))] (vup σ 52 i 0) K
        exact ih (i + 1) _ (by omega) (by omega) (by omega) k2 k15 k19 x1 x2 (fun q => by
          by_cases e : i = 221
          · rw [e]; exact vup_eq
          · exact (vup_ne 52 221 (fun q => e q.2.symm)).trans (k221 (by omega))) (fun j a b c => by
          by_cases e : j = i
          · omega
          · exact (vup_ne 52 j (fun q => e q.2)).trans (kh j a (by omega) c)) kq kn
      · refine And.intro (show 0 ≤ i ∧ i < 179 from by omega) ?_
        refine And.intro (show 0 ≤ i ∧ i < 402 from by omega) ?_
        refine And.intro (show vRg (zrg 52) i (σ 53 i) from rg52_h B hb (by omega) (by omega)) ?_
        refine And.intro (show -2147483648 ≤ (i + 1) ∧ (i + 1) ≤ 2147483647 from by omega) ?_
        show zGL E gJ1 mdT w gm_278 93 [(0, .inr (.inl 12)), (1, .inl (i + 1))] (vup σ 52 i (σ 53 i)) K
        exact ih (i + 1) _ (by omega) (by omega) (by omega) k2 k15 k19 x1 x2 (fun q => by
          by_cases e : i = 221
          · rw [e]; omega
          · exact (vup_ne 52 221 (fun q => e q.2.symm)).trans (k221 (by omega))) (fun j a b c => by
          by_cases e : j = i
          · rw [e]; exact vup_eq.trans (kq i (by omega) (by omega))
          · exact (vup_ne 52 j (fun q => e q.2)).trans (kh j a (by omega) c)) kq kn
set_option maxRecDepth 8192 in
theorem uk_278B (X : zX gKX E) (B : zB E) {x : qX} (hl : 0 ≤ x.2.2 ∧ x.2.2 ≤ 940) (hn : x.2.1 ≤ 940) {σ0 : vS} : ∀ (k : Nat) (l : Int) (S : qS) (σ : vS), l + (k : Int) = 1000 → 0 ≤ l → l ≤ S.1 → rT x S.1 σ → rTb S σ → qSb x S → σ 12 19 = l → rfx σ0 σ → ((qloop x k l S).2.1 = 0 → ∀ σ2, rT x (qloop x k l S).2.2.1 σ2 → rTb (qloop x k l S).2.2 σ2 → σ2 12 19 = (qloop x k l S).1 → zGL E gJ1 mdT w gm_278 91 [(0, .inr (.inl 12))] σ2 K) → (¬ (qloop x k l S).2.1 = 0 → ∀ σ2, rFl x (qloop x k l S).2.1 (qloop x k l S).2.2.1 σ2 → rfx σ0 σ2 → K (some (.inl (qloop x k l S).1)) σ2) → zGL E gJ1 mdT w gm_278 48 [(0, .inr (.inl 12))] σ K := by
  obtain ⟨hl, hl9⟩ := hl
  intro k
  induction k with
  | zero => intro l S σ h h0 h1 hT hTb hS; have := hS.1; omega
  | succ k ih =>
    intro l S σ hlk l0 lS hT hTb hS k19 hR hC hF
    refine zbdL (fun hb => zgoL X B (uRT_ok X B) [] [(24, [0, 1]), (48, [0]), (91, [0]), (93, [0, 1]), (131, [0, 1]), (160, [0, 1]), (193, [0, 1])] (fun m => Nat.beq m.2.2.2.2.2.2.length 153) (by decide +kernel) ?_)
    have f1 : 0 ≤ σ 12 11 ∧ σ 12 11 ≤ 4 := zfL B hb (t := 12) (f := 11) (by decide +kernel)
    refine And.intro (fun (c2 : (σ 12 11) = 0) => ?_) (fun (c3 : ¬ (σ 12 11) = 0) => ?_)
    · have eQ : qloop x (k + 1) l S = (l, 0, S) := qloop_e (by show qkd x.1 x.2.1 x.2.2 S.1 = 0; rw [← hT.2.1.1]; omega)
      rw [eQ] at hC
      refine (show zGL E gJ1 mdT w gm_278 91 [(0, .inr (.inl 12))] σ K from ?_)
      exact hC rfl _ hT hTb k19
    · have hk0 : ¬ qtk x S = 0 := by show ¬ qkd x.1 x.2.1 x.2.2 S.1 = 0; rw [← hT.2.1.1]; omega
      refine ⟨x, S, hT, hTb, hS, fun c1 σ1 F1 G1 => ?_, fun c1 σ1 T1 B1 G1 => ?_⟩
      · have fb : 0 ≤ σ1 12 16 ∧ σ1 12 16 ≤ 940 := by rw [F1.2.1]; have := (q_bd (τ := x.1) F1.2.2.2.2.1 F1.2.2.2.2.2 (lim := x.2.2) hl).1; omega
        refine And.intro (fun _ => ?_) (fun (q : ¬ 0 = 0) => absurd q (by decide))
        refine And.intro (show -2147483648 ≤ ((-1) - (σ1 12 16)) ∧ ((-1) - (σ1 12 16)) ≤ 2147483647 from by omega) ?_
        have eF : qfull x S = qline x S := qfull_f c1
        have eQ : qloop x (k + 1) l S = (-1 - qat x.1 x.2.1 x.2.2 (qline x S).2.1, (qline x S).1, (qline x S).2) := (qloop_f hk0 (by rw [eF]; exact c1)).trans (by rw [eF])
        rw [eQ] at hF
        refine (show K (some (.inl ((-1) - (σ1 12 16)))) σ1 from ?_)
        rw [F1.2.1]
        exact hF c1 _ F1 (rfx_l hR G1)
      · have e19 : σ1 12 19 = l := (G1.1 19 (by omega) (by omega)).trans k19
        refine And.intro (fun (q : 1 = 0) => absurd q (by decide)) (fun _ => ?_)
        refine ⟨x, (qline x S).2.1, T1, fun c2 σ2 F2 G2 => ?_, fun c2 σ2 T2 G2 => ?_⟩
        · have fb : 0 ≤ σ2 12 16 ∧ σ2 12 16 ≤ 940 := by rw [F2.2.1]; have := (q_bd (τ := x.1) F2.2.2.2.2.1 F2.2.2.2.2.2 (lim := x.2.2) hl).1; omega
          refine And.intro (fun (q : ¬ 0 = 0) => absurd q (by decide)) (fun _ => ?_)
          refine And.intro (show -2147483648 ≤ ((-1) - (σ2 12 16)) ∧ ((-1) - (σ2 12 16)) ≤ 2147483647 from by omega) ?_
          have eF : qfull x S = (1, (qline x S).2) := qfull_n c1 c2
          have eQ : qloop x (k + 1) l S = (-1 - qat x.1 x.2.1 x.2.2 (qline x S).2.1, 1, (qline x S).2) := (qloop_f hk0 (by rw [eF]; exact (by decide : ¬ (1 : Int) = 0))).trans (by rw [eF])
          rw [eQ] at hF
          refine (show K (some (.inl ((-1) - (σ2 12 16)))) σ2 from ?_)
          rw [F2.2.1]
          exact hF (show ¬ (1 : Int) = 0 by decide) _ F2 (rfx_l (rfx_l hR G1) (rg_l G2))
        · have e19 : σ2 12 19 = l := (G2.2 19 (by omega) (by omega)).trans e19
          refine And.intro (fun _ => ?_) (fun (q : 1 = 0) => absurd q (by decide))
          refine And.intro (show -2147483648 ≤ ((σ2 12 19) + 1) ∧ ((σ2 12 19) + 1) ≤ 2147483647 from by omega) ?_
          refine And.intro (show Int.negSucc 2147483647 ≤ ((σ2 12 19) + 1) ∧ ((σ2 12 19) + 1) ≤ 2147483647 from rgm (by omega)) ?_
          have eF : qfull x S = (0, qadv x (qline x S).2) := qfull_s c1 c2
          have g := qfull_0 hl hS (by rw [eF])
          rw [eF] at g
          have g2 : S.1 + 1 ≤ (qadv x (qline x S).2).1 := g.2
          have eQ : qloop x (k + 1) l S = qloop x k (l + 1) (qadv x (qline x S).2) := (qloop_g hk0 (by rw [eF])).trans (by rw [eF])
          rw [eQ] at hC hF
          refine (show zGL E gJ1 mdT w gm_278 48 [(0, .inr (.inl 12))] (vup σ2 12 19 ((σ2 12 19) + 1)) K from ?_)
          rw [e19]
          exact ih (l + 1) (qadv x (qline x S).2) _ (by omega) (by omega) (by omega) (rT_19 T2) (rTb_fr B1 (by rw [vup_fr (by decide)]; exact G2.1 53 (by decide)) (by rw [vup_fr (by decide)]; exact G2.1 55 (by decide))) g.1 vup_eq ⟨by rw [vup_fr (by decide)]; exact (rfx_l (rfx_l hR G1) (rg_l G2)).1, fun i a b => by rw [vup_fr (by decide)]; exact (rfx_l (rfx_l hR G1) (rg_l G2)).2 i a b⟩ hC hF
set_option maxRecDepth 8192 in
theorem uk_278A (X : zX gKX E) (B : zB E) {x : qX} (hn0 : 0 ≤ x.2.1) {σ0 : vS} (hB : ∀ σ2, rT x 0 σ2 → rTb (q0 (σ0 55)) σ2 → σ2 12 19 = 0 → rfx σ0 σ2 → zGL E gJ1 mdT w gm_278 48 [(0, .inr (.inl 12))] σ2 K) : ∀ (m : Nat) (i : Int) (σ : vS), 179 - i < (m : Int) → 0 ≤ i → i ≤ 179 → rTB x σ → σ 12 4 = 0 → σ 12 19 = 0 → σ 55 = σ0 55 → σ 52 = σ0 52 → (∀ j : Int, 0 ≤ j → j < i → σ 53 j = 0) → zGL E gJ1 mdT w gm_278 24 [(0, .inr (.inl 12)), (1, .inl i)] σ K := by
  intro m
  induction m with
  | zero => intro i σ h; omega
  | succ m ih =>
    intro i σ hm i0 i1 hTB k4 k19 k55 k52 kh
    refine zbdL (fun hb => zgoL X B (uRT_ok X B) [] [(24, [0, 1]), (48, [0]), (91, [0]), (93, [0, 1]), (131, [0, 1]), (160, [0, 1]), (193, [0, 1])] (fun m => Nat.beq m.2.2.2.2.2.2.length 153) (by decide +kernel) ?_)
    refine And.intro (fun (c1 : 179 ≤ i) => ?_) (fun (c2 : i < 179) => ?_)
    · refine fun (σ1 : vS) f1 t1 => ?_
      have T1 : rT x 0 σ1 := rT_adv hTB k4 ⟨by omega, hn0⟩ f1 t1
      show zGL E gJ1 mdT w gm_278 48 [(0, .inr (.inl 12))] σ1 K
      exact hB _ T1 ⟨fun j hj => by rw [f1.1 53 (by decide)]; exact kh j (by omega) (by omega), fun j a b => by rw [f1.1 55 (by decide), k55]; rfl⟩ ((f1.2 19 (by omega) (by omega) (by omega) (by omega) (by omega) (by omega)).trans k19) ⟨(f1.1 52 (by decide)).trans k52, fun j a b => by rw [f1.1 55 (by decide), k55]⟩
    · refine And.intro (show 0 ≤ i ∧ i < 179 from by omega) ?_
      refine And.intro (show vRg (zrg 53) i 0 from rg53_z (by omega) (by omega)) ?_
      refine And.intro (show -2147483648 ≤ (i + 1) ∧ (i + 1) ≤ 2147483647 from by omega) ?_
      show zGL E gJ1 mdT w gm_278 24 [(0, .inr (.inl 12)), (1, .inl (i + 1))] (vup σ 53 i 0) K
      exact ih (i + 1) _ (by omega) (by omega) (by omega) (rTB_t hTB (by decide)) k4 k19 ((vup_fr (by decide)).trans k55) ((vup_fr (by decide)).trans k52) (fun j a b => by
        by_cases e : j = i
        · rw [e]; exact vup_eq
        · exact (vup_ne 53 j (fun q => e q.2)).trans (kh j a (by omega)))
set_option maxRecDepth 8192 in
theorem uk_278G (X : zX gKX E) (B : zB E) {h nm : Int → Int} {l : Int} (hK : ∀ σ2 : vS, vX σ2 → σ2 12 2 = 0 → σ2 12 15 = 0 → (∀ i : Int, 0 ≤ i → i < 5 → σ2 52 i = h i) → (∀ i : Int, 0 ≤ i → i < 24 → σ2 55 i = nm i) → K (some (.inl l)) σ2) (k2 : σ 12 2 = 0) (k15 : σ 12 15 = 0) (k19 : σ 12 19 = l) (x1 : xVPz (σ 74) 221) (x2 : xVPz (σ 74) 623) (kq : ∀ j : Int, 0 ≤ j → j < 5 → σ 53 j = h j) (kn : ∀ j : Int, 0 ≤ j → j < 24 → σ 55 (24 + j) = nm j) : zGL E gJ1 mdT w gm_278 91 [(0, .inr (.inl 12))] σ K := by
  refine zbdL (fun hb => zgoL X B (uRT_ok X B) [] [(24, [0, 1]), (48, [0]), (91, [0]), (93, [0, 1]), (131, [0, 1]), (160, [0, 1]), (193, [0, 1])] (fun m => Nat.beq m.2.2.2.2.2.2.length 153) (by decide +kernel) ?_)
  show zGL E gJ1 mdT w gm_278 93 [(0, .inr (.inl 12)), (1, .inl 0)] σ K
  exact uk_278C X B hK 403 0 _ (by omega) (by omega) (by omega) k2 k15 k19 x1 x2 (fun q => by omega) (fun j a b => by omega) kq kn
set_option maxRecDepth 8192 in
theorem uk_278 (X : zX gKX E) (B : zB E) : zOKL E gJ1 mdT w 278 us278 := by
  intro q hq vs σ K h
  cases (show gMT 278 = some (gm_278, 2) from rfl).symm.trans hq
  unfold us278 at h
  split at h
  · obtain ⟨hX, hR, h0, h1⟩ := h
    show zGL E gJ1 mdT w gm_278 0 [(0, .inr (.inl 12))] σ K
    refine zbdL (fun hb => zgoL X B (uRT_ok X B) [] [(24, [0, 1]), (48, [0]), (91, [0]), (93, [0, 1]), (131, [0, 1]), (160, [0, 1]), (193, [0, 1])] (fun m => Nat.beq m.2.2.2.2.2.2.length 153) (by decide +kernel) ?_)
    refine And.intro (show Int.negSucc 2147483647 ≤ 0 ∧ 0 ≤ 2147483647 from rgm (by omega)) ?_
    have f1 : 0 ≤ σ 12 2 ∧ σ 12 2 ≤ 940 := zfL B hb (t := 12) (f := 2) (by decide +kernel)
    refine And.intro (show 0 ≤ (σ 12 2) ∧ (σ 12 2) ≤ 940 from by omega) ?_
    refine And.intro (show 0 ≤ 0 ∧ 0 ≤ 940 from by omega) ?_
    refine And.intro (show 0 ≤ 0 ∧ 0 ≤ 940 from by omega) ?_
    refine And.intro (show 0 ≤ 900 ∧ 900 ≤ 940 from by omega) ?_
    refine And.intro (show Int.negSucc 2147483647 ≤ 0 ∧ 0 ≤ 2147483647 from rgm (by omega)) ?_
    refine And.intro (show Int.negSucc 2147483647 ≤ 0 ∧ 0 ≤ 2147483647 from rgm (by omega)) ?_
    show zGL E gJ1 mdT w gm_278 24 [(0, .inr (.inl 12)), (1, .inl 0)] (vup (vup (vup (vup (vup (vup (vup σ 12 0 0) 12 3 (σ 12 2)) 12 2 0) 12 4 0) 12 5 900) 12 15 0) 12 19 0) K
    refine uk_278A X B (x := (rtx σ, σ 12 2, 900)) (by show 0 ≤ σ 12 2; omega) (σ0 := σ) ?_ 180 0 _ (by omega) (by omega) (by omega) ⟨⟨rfl, rfl, rfl, rfl, hX⟩, hR, rfl⟩ rfl rfl rfl rfl (fun j a b => by omega)
    intro σ2 T2 B2 e19 hfx
    exact uk_278B X B (x := (rtx σ, σ 12 2, 900)) ⟨(by decide : (0 : Int) ≤ 900), (by decide : (900 : Int) ≤ 940)⟩ (by show σ 12 2 ≤ 940; omega) (σ0 := σ) 1000 0 (q0 (σ 55)) σ2 (by omega) (by omega) (Int.le_refl _) T2 B2 ⟨⟨Int.le_refl _, by show 0 ≤ σ 12 2; omega⟩, (by decide : (0 : Int) ≤ 0 ∧ (0 : Int) ≤ 6), (by decide : (0 : Int) ≤ 0 ∧ (0 : Int) ≤ 6), (by decide : (0 : Int) ≤ 0 ∧ (0 : Int) ≤ 12), (by decide : (0 : Int) ≤ 0 ∧ (0 : Int) ≤ 20), (by decide : (0 : Int) ≤ 0 ∧ (0 : Int) ≤ 0), fun i a b => by have b : i < 0 := b; omega, fun i _ _ => ⟨⟨Int.le_refl _, by show (0 : Int) ≤ 12; decide⟩, Int.le_refl _, by show (0 : Int) ≤ 6; decide⟩, fun i _ _ => ⟨Int.le_refl _, by show (0 : Int) ≤ 9; decide⟩⟩ e19 hfx (fun c0 σ3 T3 B3 e3 => uk_278G X B (fun σ4 a b c d e => h0 c0 σ4 a b c d e) T3.1.1.2.2.2.1 T3.1.2.2 e3 T3.1.1.2.2.2.2.2.1 T3.1.1.2.2.2.2.2.2 (fun j a b => B3.1 j (by omega)) B3.2) (fun c0 σ3 F3 hf => h1 c0 σ3 F3.2.2.2.1 F3.2.2.1 F3.1 hf.1 hf.2)
  · exact absurd h id
end ZU5
