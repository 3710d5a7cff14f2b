/-! THE REFERENCE READS A TERRACE: readPassage, readOwner, readRoom. -/
theorem rg53 {i v : Int} {a b : Nat} {lo hi : Int} (hk : ((List.range b).all fun j => Nat.blt j a || (match rgAt (zrg 53) j with
    | some q => ieq q.1 lo && ieq q.2 hi
    | none => false)) = true) (h1 : (a : Int) ≤ i) (h2 : i < (b : Int)) (hv : lo ≤ v ∧ v ≤ hi) : vRg (zrg 53) i v := by
  show ∀ q, rgAt (zrg 53) i.toNat = some q → q.1 ≤ v ∧ v ≤ q.2
  intro q hq
  have k3 := List.all_eq_true.mp hk i.toNat (List.mem_range.mpr (by omega))
  rw [Bool.or_eq_true] at k3
  rcases k3 with k3 | k3
  · have : i.toNat < a := Nat.le_of_ble_eq_true k3
    omega
  · rw [hq] at k3
    have k3 : (ieq q.1 lo && ieq q.2 hi) = true := k3
    rw [Bool.and_eq_true, ieq_iff, ieq_iff] at k3
    rw [k3.1, k3.2]
    exact hv
theorem vor_b {x y : Int} : -2147483648 ≤ vor x y ∧ vor x y ≤ 2147483647 := by
  unfold vor
  have a := Int32.le_toInt (Int32.ofInt x ||| Int32.ofInt y)
  have b := Int32.toInt_lt (Int32.ofInt x ||| Int32.ofInt y)
  omega
theorem rTb_fr {S : qS} {σ σ2 : vS} (h : rTb S σ) (e1 : σ2 53 = σ 53) (e2 : σ2 55 = σ 55) : rTb S σ2 := ⟨fun i hi => by rw [e1]; exact h.1 i hi, fun i a b => by rw [e2]; exact h.2 i a b⟩
theorem qlf_sh {x : qX} {f g : Int → Int} {a b m p : Int} (hm : 0 ≤ m) (h : ∀ i : Int, 0 ≤ i → i < m → f (a + i) = g (b + i)) : qlf x f a m p = qlf x g b m p := by
  rw [qlf_eq, qlf_eq, qfd_sh hm h]
theorem qlk_n {x : qX} {a m : Int} {S : qS} (h : 0 ≤ qlk x a m S) : qnmp x S.1 = true := (qlf_pos h).1
theorem qlk_b {x : qX} {a m : Int} {S : qS} (hm : 0 ≤ m) : qlk x a m S < m := by
  show qlf x S.2.2 a m S.1 < m
  rw [qlf_eq]
  have := qfd_b (f := S.2.2) (a := a) (x := qwd x.1 x.2.1 S.1) hm
  split
  · split <;> omega
  · omega
theorem qlk_m {x : qX} {a m : Int} {S : qS} (hm : 0 ≤ m) : -3 ≤ qlk x a m S := by
  show -3 ≤ qlf x S.2.2 a m S.1
  rw [qlf_eq]
  split
  · split <;> omega
  · omega
theorem qtn_f {x : qX} {a m : Int} {S : qS} {c : Int → qS → qR} (h : qlk x a m S < 0) : qtn x a m S c = (-(qlk x a m S), S) := if_pos h
theorem qtn_k {x : qX} {a m : Int} {S : qS} {c : Int → qS → qR} (h : 0 ≤ qlk x a m S) : qtn x a m S c = c (qlk x a m S) S := if_neg (by omega)
/-- the words of a LINE: done, or a FAULT -/
def rRs (x : qX) (R : qR) (σ : vS) (K : vKL) : Prop := (¬ R.1 = 0 → ∀ σ2, rFl x R.1 R.2.1 σ2 → rgl σ σ2 → K (some (.inl 0)) σ2) ∧ (R.1 = 0 → ∀ σ2, rT x R.2.1 σ2 → rTb R.2 σ2 → rgl σ σ2 → K (some (.inl 1)) σ2)
theorem rRs_f {x : qX} {R : qR} {σ σ2 : vS} {K : vKL} {k : Int} {S : qS} (h : rRs x R σ K) (e : R = (k, S)) (hk : ¬ k = 0) (F : rFl x k S.1 σ2) (g : rgl σ σ2) : K (some (.inl 0)) σ2 := by
  subst e
  exact h.1 hk σ2 F g
theorem rRs_d {x : qX} {R : qR} {σ σ2 : vS} {K : vKL} {S : qS} (h : rRs x R σ K) (e : R = (0, S)) (T : rT x S.1 σ2) (b : rTb S σ2) (g : rgl σ σ2) : K (some (.inl 1)) σ2 := by
  subst e
  exact h.2 rfl σ2 T b g
theorem tb01 {x k : Int} (h0 : 0 ≤ k) (h1 : k ≤ 31) : (tb x k = true ∧ vand (vshr x k) 1 = 1) ∨ (tb x k = false ∧ vand (vshr x k) 1 = 0) := by
  rw [tb_bit h0 h1]
  cases tb x k with
  | true => exact Or.inl ⟨rfl, if_pos rfl⟩
  | false => exact Or.inr ⟨rfl, if_neg Bool.false_ne_true⟩
noncomputable section
def us259 : vSpL := fun vs σ K => match vs with
  | [.inr (.inl 12), .inl robe] => (0 ≤ robe ∧ robe ≤ 1) ∧ ∃ x S, rT x S.1 σ ∧ ¬ qkd x.1 x.2.1 x.2.2 S.1 = 4 ∧ rTb S σ ∧ qSb x S ∧ rRs x (qPas x robe S) σ K
  | _ => False
def uRM : List (Nat × vSpL) := [(277, us277), (239, us239), (223, rs223), (178, rs178), (207, rs207), (271, rs271), (228, rs228), (230, rs230)]
end
section ZU2
variable {E : zE} {w : va_W} {σ : vS} {K : vKL}
theorem uRM_ok (X : zX gKX E) (B : zB E) : zSL E gJ1 mdT w uRM := zS_consL (uk_277 X B) (zS_consL (uk_239 X B) (uRL_ok X B))
set_option maxRecDepth 8192 in
theorem uk_259l (X : zX gKX E) (B : zB E) {x : qX} {S : qS} {R : qR} {σ0 : vS} {robe k a b : Int} (hrb : 0 ≤ robe ∧ robe ≤ 1) (hT : rT x S.1 σ) (hk4 : ¬ qkd x.1 x.2.1 x.2.2 S.1 = 4) (hl : 0 ≤ x.2.2) (hTb : rTb S σ) (hS3 : 0 ≤ S.2.1 3 ∧ S.2.1 3 < 20) (hS4 : 0 ≤ S.2.1 4 ∧ S.2.1 4 ≤ 20) (ha : 0 ≤ a ∧ a ≤ 11) (hb2 : 0 ≤ b ∧ b ≤ 11) (ek : k = S.2.1 3) (eg : σ 12 18 = b) (h0 : rgl σ0 σ) (hK : rRs x R σ0 K) (hR3 : (a = b ∨ qjn S.2.1 a b (S.2.1 3).toNat = true) → R = (3, S)) (hR0 : ¬ (a = b ∨ qjn S.2.1 a b (S.2.1 3).toNat = true) → R = (0, qadv x (qJoin robe a b S))) : ∀ (m : Nat) (i is : Int), S.2.1 3 - i < (m : Int) → 0 ≤ i → i ≤ S.2.1 3 → ((is = 1 ∧ ¬ (a = b ∨ qjn S.2.1 a b i.toNat = true)) ∨ (is = 0 ∧ (a = b ∨ qjn S.2.1 a b i.toNat = true))) → zGL E gJ1 mdT w gm_259 80 [(0, .inr (.inl 12)), (1, .inl robe), (2, .inl k), (3, .inl a), (4, .inl is), (5, .inl i)] σ K := by
  subst ek
  intro m
  induction m with
  | zero => intro i is h; omega
  | succ m ih =>
    intro i is hm i0 i1 hI
    have his : is = 0 ∨ is = 1 := by rcases hI with hI | hI <;> omega
    have hI1 : is = 1 → ¬ (a = b ∨ qjn S.2.1 a b i.toNat = true) := fun q => by rcases hI with hI | hI <;> first | exact hI.2 | omega
    have hI0 : is = 0 → (a = b ∨ qjn S.2.1 a b i.toNat = true) := fun q => by rcases hI with hI | hI <;> first | exact hI.2 | omega
    have hE1 : i < S.2.1 3 → σ 53 (29 + i) = S.2.1 (29 + i) := fun _ => hTb.1 (29 + i) (by omega)
    have hE2 : i < S.2.1 3 → σ 53 (49 + i) = S.2.1 (49 + i) := fun _ => hTb.1 (49 + i) (by omega)
    have hE3 : σ 53 3 = S.2.1 3 := hTb.1 3 (by omega)
    have hE4 : σ 53 4 = S.2.1 4 := hTb.1 4 (by omega)
    have hV : ∀ j : Int, j < 29 → (vup (vup (vup σ 53 (29 + S.2.1 3) a) 53 (49 + S.2.1 3) (σ 12 18)) 53 (69 + S.2.1 3) robe) 53 j = σ 53 j := fun j hj => by rw [vup_ne 53 j (fun q => by have := q.2; omega), vup_ne 53 j (fun q => by have := q.2; omega), vup_ne 53 j (fun q => by have := q.2; omega)]
    have hV3 := hV 3 (by omega)
    have hV4 := hV 4 (by omega)
    rw [hE3] at hV3
    rw [hE4] at hV4
    refine zbdL (fun hb => zgoL X B (uRM_ok X B) [] [(80, [0, 1, 2, 3, 4, 5])] (fun m => Nat.beq m.2.2.2.2.2.2.length 140) (by decide +kernel) ?_)
    refine And.intro (fun (c1 : (S.2.1 3) ≤ i) => ?_) (fun (c2 : i < (S.2.1 3)) => ?_)
    · refine And.intro (fun (c3 : ¬ is = 0) => ?_) (fun (c4 : is = 0) => ?_)
      · refine And.intro (show -2147483648 ≤ (29 + (S.2.1 3)) ∧ (29 + (S.2.1 3)) ≤ 2147483647 from by omega) ?_
        refine And.intro (show 0 ≤ (29 + (S.2.1 3)) ∧ (29 + (S.2.1 3)) < 179 from by omega) ?_
        refine And.intro (show vRg (zrg 53) (29 + (S.2.1 3)) a from rg53 (a := 29) (b := 49) (lo := 0) (hi := 11) (by decide +kernel) (by omega) (by omega) (by omega)) ?_
        refine And.intro (show -2147483648 ≤ (49 + (S.2.1 3)) ∧ (49 + (S.2.1 3)) ≤ 2147483647 from by omega) ?_
        have f5 : (-1) ≤ σ 12 18 ∧ σ 12 18 ≤ 60 := zfL B hb (t := 12) (f := 18) (by decide +kernel)
        refine And.intro (show 0 ≤ (49 + (S.2.1 3)) ∧ (49 + (S.2.1 3)) < 179 from by omega) ?_
        refine And.intro (show vRg (zrg 53) (49 + (S.2.1 3)) (σ 12 18) from rg53 (a := 49) (b := 69) (lo := 0) (hi := 11) (by decide +kernel) (by omega) (by omega) (by omega)) ?_
        refine And.intro (show -2147483648 ≤ (69 + (S.2.1 3)) ∧ (69 + (S.2.1 3)) ≤ 2147483647 from by omega) ?_
        refine And.intro (show 0 ≤ (69 + (S.2.1 3)) ∧ (69 + (S.2.1 3)) < 179 from by omega) ?_
        refine And.intro (show vRg (zrg 53) (69 + (S.2.1 3)) robe from rg53 (a := 69) (b := 89) (lo := 0) (hi := 1) (by decide +kernel) (by omega) (by omega) (by omega)) ?_
        refine And.intro (show 0 ≤ 4 ∧ 4 < 179 from by omega) ?_
        refine And.intro (show -2147483648 ≤ (((vup (vup (vup σ 53 (29 + (S.2.1 3)) a) 53 (49 + (S.2.1 3)) (σ 12 18)) 53 (69 + (S.2.1 3)) robe) 53 4) + robe) ∧ (((vup (vup (vup σ 53 (29 + (S.2.1 3)) a) 53 (49 + (S.2.1 3)) (σ 12 18)) 53 (69 + (S.2.1 3)) robe) 53 4) + robe) ≤ 2147483647 from by omega) ?_
        refine And.intro (show 0 ≤ 4 ∧ 4 < 179 from by omega) ?_
        refine And.intro (show vRg (zrg 53) 4 (((vup (vup (vup σ 53 (29 + (S.2.1 3)) a) 53 (49 + (S.2.1 3)) (σ 12 18)) 53 (69 + (S.2.1 3)) robe) 53 4) + robe) from rg53 (a := 4) (b := 5) (lo := (-2147483648)) (hi := 2147483647) (by decide +kernel) (by omega) (by omega) (by omega)) ?_
        refine And.intro (show 0 ≤ 3 ∧ 3 < 179 from by omega) ?_
        refine And.intro (show -2147483648 ≤ (((vup (vup (vup σ 53 (29 + (S.2.1 3)) a) 53 (49 + (S.2.1 3)) (σ 12 18)) 53 (69 + (S.2.1 3)) robe) 53 3) + 1) ∧ (((vup (vup (vup σ 53 (29 + (S.2.1 3)) a) 53 (49 + (S.2.1 3)) (σ 12 18)) 53 (69 + (S.2.1 3)) robe) 53 3) + 1) ≤ 2147483647 from by omega) ?_
        refine And.intro (show 0 ≤ 3 ∧ 3 < 179 from by omega) ?_
        refine And.intro (show vRg (zrg 53) 3 (((vup (vup (vup σ 53 (29 + (S.2.1 3)) a) 53 (49 + (S.2.1 3)) (σ 12 18)) 53 (69 + (S.2.1 3)) robe) 53 3) + 1) from rg53 (a := 3) (b := 4) (lo := 0) (hi := 20) (by decide +kernel) (by omega) (by omega) (by omega)) ?_
        have hI1x : ¬ (a = b ∨ qjn S.2.1 a b (S.2.1 3).toNat = true) := by
          rcases hI with ⟨-, q⟩ | ⟨q, -⟩
          · rw [show i = S.2.1 3 by omega] at q; exact q
          · omega
        refine fun (σ1 : vS) (fσ1 : rfr (vup (vup (vup (vup (vup σ 53 (29 + (S.2.1 3)) a) 53 (49 + (S.2.1 3)) (σ 12 18)) 53 (69 + (S.2.1 3)) robe) 53 4 (((vup (vup (vup σ 53 (29 + (S.2.1 3)) a) 53 (49 + (S.2.1 3)) (σ 12 18)) 53 (69 + (S.2.1 3)) robe) 53 4) + robe)) 53 3 (((vup (vup (vup σ 53 (29 + (S.2.1 3)) a) 53 (49 + (S.2.1 3)) (σ 12 18)) 53 (69 + (S.2.1 3)) robe) 53 3) + 1)) σ1) (tσ1 : rtk (rtx (vup (vup (vup (vup (vup σ 53 (29 + (S.2.1 3)) a) 53 (49 + (S.2.1 3)) (σ 12 18)) 53 (69 + (S.2.1 3)) robe) 53 4 (((vup (vup (vup σ 53 (29 + (S.2.1 3)) a) 53 (49 + (S.2.1 3)) (σ 12 18)) 53 (69 + (S.2.1 3)) robe) 53 4) + robe)) 53 3 (((vup (vup (vup σ 53 (29 + (S.2.1 3)) a) 53 (49 + (S.2.1 3)) (σ 12 18)) 53 (69 + (S.2.1 3)) robe) 53 3) + 1))) ((vup (vup (vup (vup (vup σ 53 (29 + (S.2.1 3)) a) 53 (49 + (S.2.1 3)) (σ 12 18)) 53 (69 + (S.2.1 3)) robe) 53 4 (((vup (vup (vup σ 53 (29 + (S.2.1 3)) a) 53 (49 + (S.2.1 3)) (σ 12 18)) 53 (69 + (S.2.1 3)) robe) 53 4) + robe)) 53 3 (((vup (vup (vup σ 53 (29 + (S.2.1 3)) a) 53 (49 + (S.2.1 3)) (σ 12 18)) 53 (69 + (S.2.1 3)) robe) 53 3) + 1)) 12 3) ((vup (vup (vup (vup (vup σ 53 (29 + (S.2.1 3)) a) 53 (49 + (S.2.1 3)) (σ 12 18)) 53 (69 + (S.2.1 3)) robe) 53 4 (((vup (vup (vup σ 53 (29 + (S.2.1 3)) a) 53 (49 + (S.2.1 3)) (σ 12 18)) 53 (69 + (S.2.1 3)) robe) 53 4) + robe)) 53 3 (((vup (vup (vup σ 53 (29 + (S.2.1 3)) a) 53 (49 + (S.2.1 3)) (σ 12 18)) 53 (69 + (S.2.1 3)) robe) 53 3) + 1)) 12 5) (tE (fun q => tbk (rtx (vup (vup (vup (vup (vup σ 53 (29 + (S.2.1 3)) a) 53 (49 + (S.2.1 3)) (σ 12 18)) 53 (69 + (S.2.1 3)) robe) 53 4 (((vup (vup (vup σ 53 (29 + (S.2.1 3)) a) 53 (49 + (S.2.1 3)) (σ 12 18)) 53 (69 + (S.2.1 3)) robe) 53 4) + robe)) 53 3 (((vup (vup (vup σ 53 (29 + (S.2.1 3)) a) 53 (49 + (S.2.1 3)) (σ 12 18)) 53 (69 + (S.2.1 3)) robe) 53 3) + 1)) q)) ((vup (vup (vup (vup (vup σ 53 (29 + (S.2.1 3)) a) 53 (49 + (S.2.1 3)) (σ 12 18)) 53 (69 + (S.2.1 3)) robe) 53 4 (((vup (vup (vup σ 53 (29 + (S.2.1 3)) a) 53 (49 + (S.2.1 3)) (σ 12 18)) 53 (69 + (S.2.1 3)) robe) 53 4) + robe)) 53 3 (((vup (vup (vup σ 53 (29 + (S.2.1 3)) a) 53 (49 + (S.2.1 3)) (σ 12 18)) 53 (69 + (S.2.1 3)) robe) 53 3) + 1)) 12 3) ((vup (vup (vup (vup (vup σ 53 (29 + (S.2.1 3)) a) 53 (49 + (S.2.1 3)) (σ 12 18)) 53 (69 + (S.2.1 3)) robe) 53 4 (((vup (vup (vup σ 53 (29 + (S.2.1 3)) a) 53 (49 + (S.2.1 3)) (σ 12 18)) 53 (69 + (S.2.1 3)) robe) 53 4) + robe)) 53 3 (((vup (vup (vup σ 53 (29 + (S.2.1 3)) a) 53 (49 + (S.2.1 3)) (σ 12 18)) 53 (69 + (S.2.1 3)) robe) 53 3) + 1)) 12 4)) σ1) => ?_
        have T6 : rT x S.1 (vup (vup (vup (vup (vup σ 53 (29 + (S.2.1 3)) a) 53 (49 + (S.2.1 3)) (σ 12 18)) 53 (69 + (S.2.1 3)) robe) 53 4 (((vup (vup (vup σ 53 (29 + (S.2.1 3)) a) 53 (49 + (S.2.1 3)) (σ 12 18)) 53 (69 + (S.2.1 3)) robe) 53 4) + robe)) 53 3 (((vup (vup (vup σ 53 (29 + (S.2.1 3)) a) 53 (49 + (S.2.1 3)) (σ 12 18)) 53 (69 + (S.2.1 3)) robe) 53 3) + 1)) := rT_t (rT_t (rT_t (rT_t (rT_t hT (by decide)) (by decide)) (by decide)) (by decide)) (by decide)
        refine And.intro (show 0 ≤ 1 ∧ 1 ≤ 1 from by omega) ?_
        refine rRs_d (S := qadv x (qJoin robe a b S)) hK (hR0 hI1x) (rT_next (p := S.1) T6 hk4 hl fσ1 tσ1) ⟨fun j hj => ?_, fun j a b => ?_⟩ (rgl_tr (rgl_tr h0 (rgl_t (rgl_t (rgl_t (rgl_t (rgl_t rgl_refl (by decide)) (by decide)) (by decide)) (by decide)) (by decide))) (rg_l (rg_of fσ1)))
        · rw [fσ1.1 53 (by decide)]
          show _ = qup (qup (qup (qup S.2.1 (29 + S.2.1 3) a) (49 + S.2.1 3) b) 4 (S.2.1 4 + robe)) 3 (S.2.1 3 + 1) j
          rw [hV3, hV4, vup_f, vup_f, vup_f, vup_f, vup_f]
          unfold ful qup
          have e := hTb.1
          have e3 := e 3 (by omega)
          have e4 := e 4 (by omega)
          have ej := e j hj
          by_cases j3 : j = 3
          · rw [if_pos j3, if_pos j3]
          · rw [if_neg j3, if_neg j3]
            by_cases j4 : j = 4
            · rw [if_pos j4, if_pos j4]
            · have j7 : ¬ j = 69 + S.2.1 3 := by omega
              rw [if_neg j4, if_neg j4, if_neg j7]
              by_cases j5 : j = 49 + S.2.1 3
              · rw [if_pos j5, if_pos j5]; exact eg
              · rw [if_neg j5, if_neg j5]
                by_cases j6 : j = 29 + S.2.1 3
                · rw [if_pos j6, if_pos j6]
                · rw [if_neg j6, if_neg j6]; exact ej
        · rw [fσ1.1 55 (by decide), vup_fr (by decide), vup_fr (by decide), vup_fr (by decide), vup_fr (by decide), vup_fr (by decide)]
          exact hTb.2 j a b
      · refine And.intro (by omega) ?_
        refine And.intro (show 0 ≤ 0 ∧ 0 ≤ 1 from by omega) ?_
        have eR : R = (3, S) := hR3 (by
          rcases hI with ⟨q, -⟩ | ⟨-, q⟩
          · omega
          · exact q.imp id (fun q => by rw [show i = S.2.1 3 by omega] at q; exact q))
        exact rRs_f hK eR (by decide) (rFl_bad hT) (rgl_tr h0 (rg_l rg_bad))
    · refine And.intro (fun (c6 : is = 0) => ?_) (fun (c7 : ¬ is = 0) => ?_)
      · refine And.intro (show -2147483648 ≤ (i + 1) ∧ (i + 1) ≤ 2147483647 from by omega) ?_
        show zGL E gJ1 mdT w gm_259 80 [(0, .inr (.inl 12)), (1, .inl robe), (2, .inl (S.2.1 3)), (3, .inl a), (4, .inl 0), (5, .inl (i + 1))] σ K
        have qe1 := hE1 (by omega); have qe2 := hE2 (by omega)
        exact ih (i + 1) 0 (by omega) (by omega) (by omega) (Or.inr ⟨rfl, by
          first
            | exact (hI0 (by omega)).imp id (fun q => by obtain ⟨j, j1, j2⟩ := (qjn_iff _).mp q; exact (qjn_iff _).mpr ⟨j, by omega, j2⟩)
            | exact Or.inr ((qjn_iff _).mpr ⟨i, by omega, by omega⟩)⟩)
      · refine And.intro (show -2147483648 ≤ (29 + i) ∧ (29 + i) ≤ 2147483647 from by omega) ?_
        refine And.intro (show 0 ≤ (29 + i) ∧ (29 + i) < 179 from by omega) ?_
        have f8 : 0 ≤ σ 53 (29 + i) ∧ σ 53 (29 + i) ≤ 11 := zbL B hb (t := 53) (a := 29) (n := 69) (i := 29 + i) (by decide +kernel) (by omega) (by omega)
        refine And.intro (fun (c9 : ¬ (σ 53 (29 + i)) = a) => ?_) (fun (c10 : (σ 53 (29 + i)) = a) => ?_)
        · refine And.intro (show -2147483648 ≤ (29 + i) ∧ (29 + i) ≤ 2147483647 from by omega) ?_
          refine And.intro (show 0 ≤ (29 + i) ∧ (29 + i) < 179 from by omega) ?_
          have f11 : (-1) ≤ σ 12 18 ∧ σ 12 18 ≤ 60 := zfL B hb (t := 12) (f := 18) (by decide +kernel)
          refine And.intro (fun (c12 : ¬ (σ 53 (29 + i)) = (σ 12 18)) => ?_) (fun (c13 : (σ 53 (29 + i)) = (σ 12 18)) => ?_)
          · refine And.intro (show -2147483648 ≤ (i + 1) ∧ (i + 1) ≤ 2147483647 from by omega) ?_
            show zGL E gJ1 mdT w gm_259 80 [(0, .inr (.inl 12)), (1, .inl robe), (2, .inl (S.2.1 3)), (3, .inl a), (4, .inl 1), (5, .inl (i + 1))] σ K
            have qe1 := hE1 (by omega); have qe2 := hE2 (by omega)
            exact ih (i + 1) 1 (by omega) (by omega) (by omega) (Or.inl ⟨rfl, fun q => by
              rcases q with q | q
              · exact hI1 (by omega) (Or.inl q)
              · obtain ⟨j, j1, j2⟩ := (qjn_iff _).mp q
                by_cases e : j = i
                · subst e; omega
                · exact hI1 (by omega) (Or.inr ((qjn_iff _).mpr ⟨j, by omega, j2⟩))⟩)
          · refine And.intro (show -2147483648 ≤ (49 + i) ∧ (49 + i) ≤ 2147483647 from by omega) ?_
            refine And.intro (show 0 ≤ (49 + i) ∧ (49 + i) < 179 from by omega) ?_
            have f14 : 0 ≤ σ 53 (49 + i) ∧ σ 53 (49 + i) ≤ 11 := zbL B hb (t := 53) (a := 29) (n := 69) (i := 49 + i) (by decide +kernel) (by omega) (by omega)
            refine And.intro (fun (c15 : (σ 53 (49 + i)) = a) => ?_) (fun (c16 : ¬ (σ 53 (49 + i)) = a) => ?_)
            · refine And.intro (show -2147483648 ≤ (i + 1) ∧ (i + 1) ≤ 2147483647 from by omega) ?_
              show zGL E gJ1 mdT w gm_259 80 [(0, .inr (.inl 12)), (1, .inl robe), (2, .inl (S.2.1 3)), (3, .inl a), (4, .inl 0), (5, .inl (i + 1))] σ K
              have qe1 := hE1 (by omega); have qe2 := hE2 (by omega)
              exact ih (i + 1) 0 (by omega) (by omega) (by omega) (Or.inr ⟨rfl, by
                first
                  | exact (hI0 (by omega)).imp id (fun q => by obtain ⟨j, j1, j2⟩ := (qjn_iff _).mp q; exact (qjn_iff _).mpr ⟨j, by omega, j2⟩)
                  | exact Or.inr ((qjn_iff _).mpr ⟨i, by omega, by omega⟩)⟩)
            · refine And.intro (show -2147483648 ≤ (i + 1) ∧ (i + 1) ≤ 2147483647 from by omega) ?_
              show zGL E gJ1 mdT w gm_259 80 [(0, .inr (.inl 12)), (1, .inl robe), (2, .inl (S.2.1 3)), (3, .inl a), (4, .inl 1), (5, .inl (i + 1))] σ K
              have qe1 := hE1 (by omega); have qe2 := hE2 (by omega)
              exact ih (i + 1) 1 (by omega) (by omega) (by omega) (Or.inl ⟨rfl, fun q => by
                rcases q with q | q
                · exact hI1 (by omega) (Or.inl q)
                · obtain ⟨j, j1, j2⟩ := (qjn_iff _).mp q
                  by_cases e : j = i
                  · subst e; omega
                  · exact hI1 (by omega) (Or.inr ((qjn_iff _).mpr ⟨j, by omega, j2⟩))⟩)
        · refine And.intro (show -2147483648 ≤ (49 + i) ∧ (49 + i) ≤ 2147483647 from by omega) ?_
          refine And.intro (show 0 ≤ (49 + i) ∧ (49 + i) < 179 from by omega) ?_
          have f17 : 0 ≤ σ 53 (49 + i) ∧ σ 53 (49 + i) ≤ 11 := zbL B hb (t := 53) (a := 29) (n := 69) (i := 49 + i) (by decide +kernel) (by omega) (by omega)
          have f18 : (-1) ≤ σ 12 18 ∧ σ 12 18 ≤ 60 := zfL B hb (t := 12) (f := 18) (by decide +kernel)
          refine And.intro (fun (c19 : (σ 53 (49 + i)) = (σ 12 18)) => ?_) (fun (c20 : ¬ (σ 53 (49 + i)) = (σ 12 18)) => ?_)
          · refine And.intro (show -2147483648 ≤ (i + 1) ∧ (i + 1) ≤ 2147483647 from by omega) ?_
            show zGL E gJ1 mdT w gm_259 80 [(0, .inr (.inl 12)), (1, .inl robe), (2, .inl (S.2.1 3)), (3, .inl a), (4, .inl 0), (5, .inl (i + 1))] σ K
            have qe1 := hE1 (by omega); have qe2 := hE2 (by omega)
            exact ih (i + 1) 0 (by omega) (by omega) (by omega) (Or.inr ⟨rfl, by
              first
                | exact (hI0 (by omega)).imp id (fun q => by obtain ⟨j, j1, j2⟩ := (qjn_iff _).mp q; exact (qjn_iff _).mpr ⟨j, by omega, j2⟩)
                | exact Or.inr ((qjn_iff _).mpr ⟨i, by omega, by omega⟩)⟩)
          · refine And.intro (show -2147483648 ≤ (29 + i) ∧ (29 + i) ≤ 2147483647 from by omega) ?_
            refine And.intro (show 0 ≤ (29 + i) ∧ (29 + i) < 179 from by omega) ?_
            refine And.intro (fun (c21 : ¬ (σ 53 (29 + i)) = (σ 12 18)) => ?_) (fun (c22 : (σ 53 (29 + i)) = (σ 12 18)) => ?_)
            · refine And.intro (show -2147483648 ≤ (i + 1) ∧ (i + 1) ≤ 2147483647 from by omega) ?_
              show zGL E gJ1 mdT w gm_259 80 [(0, .inr (.inl 12)), (1, .inl robe), (2, .inl (S.2.1 3)), (3, .inl a), (4, .inl 1), (5, .inl (i + 1))] σ K
              have qe1 := hE1 (by omega); have qe2 := hE2 (by omega)
              exact ih (i + 1) 1 (by omega) (by omega) (by omega) (Or.inl ⟨rfl, fun q => by
                rcases q with q | q
                · exact hI1 (by omega) (Or.inl q)
                · obtain ⟨j, j1, j2⟩ := (qjn_iff _).mp q
                  by_cases e : j = i
                  · subst e; omega
                  · exact hI1 (by omega) (Or.inr ((qjn_iff _).mpr ⟨j, by omega, j2⟩))⟩)
            · refine And.intro (show -2147483648 ≤ (49 + i) ∧ (49 + i) ≤ 2147483647 from by omega) ?_
              refine And.intro (show 0 ≤ (49 + i) ∧ (49 + i) < 179 from by omega) ?_
              refine And.intro (fun (c23 : (σ 53 (49 + i)) = a) => ?_) (fun (c24 : ¬ (σ 53 (49 + i)) = a) => ?_)
              · refine And.intro (show -2147483648 ≤ (i + 1) ∧ (i + 1) ≤ 2147483647 from by omega) ?_
                show zGL E gJ1 mdT w gm_259 80 [(0, .inr (.inl 12)), (1, .inl robe), (2, .inl (S.2.1 3)), (3, .inl a), (4, .inl 0), (5, .inl (i + 1))] σ K
                have qe1 := hE1 (by omega); have qe2 := hE2 (by omega)
                exact ih (i + 1) 0 (by omega) (by omega) (by omega) (Or.inr ⟨rfl, by
                  first
                    | exact (hI0 (by omega)).imp id (fun q => by obtain ⟨j, j1, j2⟩ := (qjn_iff _).mp q; exact (qjn_iff _).mpr ⟨j, by omega, j2⟩)
                    | exact Or.inr ((qjn_iff _).mpr ⟨i, by omega, by omega⟩)⟩)
              · refine And.intro (show -2147483648 ≤ (i + 1) ∧ (i + 1) ≤ 2147483647 from by omega) ?_
                show zGL E gJ1 mdT w gm_259 80 [(0, .inr (.inl 12)), (1, .inl robe), (2, .inl (S.2.1 3)), (3, .inl a), (4, .inl 1), (5, .inl (i + 1))] σ K
                have qe1 := hE1 (by omega); have qe2 := hE2 (by omega)
                exact ih (i + 1) 1 (by omega) (by omega) (by omega) (Or.inl ⟨rfl, fun q => by
                  rcases q with q | q
                  · exact hI1 (by omega) (Or.inl q)
                  · obtain ⟨j, j1, j2⟩ := (qjn_iff _).mp q
                    by_cases e : j = i
                    · subst e; omega
                    · exact hI1 (by omega) (Or.inr ((qjn_iff _).mpr ⟨j, by omega, j2⟩))⟩)
set_option maxRecDepth 8192 in
theorem uk_259 (X : zX gKX E) (B : zB E) : zOKL E gJ1 mdT w 259 us259 := by
  intro q hq vs σ K h
  cases (show gMT 259 = some (gm_259, 6) from rfl).symm.trans hq
  unfold us259 at h
  split at h
  · rename_i robe
    show zGL E gJ1 mdT w gm_259 0 [(0, .inr (.inl 12)), (1, .inl robe)] σ K
    obtain ⟨hrb, x, S, hT, hk4, hTb, hS, hK⟩ := h
    have b0 : σ 53 0 = S.2.1 0 := hTb.1 0 (by omega)
    have b1 : σ 53 1 = S.2.1 1 := hTb.1 1 (by omega)
    have b2 : σ 53 2 = S.2.1 2 := hTb.1 2 (by omega)
    have b3 : σ 53 3 = S.2.1 3 := hTb.1 3 (by omega)
    have hS0 := hS.2.1; have hS1 := hS.2.2.1; have hS2 := hS.2.2.2.1; have hS3 := hS.2.2.2.2.1
    refine zbdL (fun hb => zgoL X B (uRM_ok X B) [] [(80, [0, 1, 2, 3, 4, 5])] (fun m => Nat.beq m.2.2.2.2.2.2.length 140) (by decide +kernel) ?_)
    refine And.intro (show 0 ≤ 3 ∧ 3 < 179 from by omega) ?_
    have f1 : 0 ≤ σ 53 3 ∧ σ 53 3 ≤ 20 := zbL B hb (t := 53) (a := 3) (n := 4) (i := 3) (by decide +kernel) (by omega) (by omega)
    refine And.intro (fun (c2 : ¬ (σ 53 3) = 20) => ?_) (fun (c3 : (σ 53 3) = 20) => ?_)
    · refine fun (σ1 : vS) (f1 : rfr σ σ1) (t1 : rtk (rtx σ) (σ 12 3) (σ 12 5) (tE (fun q => tbk (rtx σ q)) (σ 12 3) (σ 12 4)) σ1) => ?_
      have T1 : rT x (qnx x.1 x.2.1 S.1) σ1 := rT_next (σ := σ) hT hk4 (lim_ok B hb hT.1).1 f1 t1
      have B1 : rTb S σ1 := rTb_fr hTb (f1.1 53 (by decide)) (f1.1 55 (by decide))
      have g1 : rgl σ σ1 := rgl_tr rgl_refl (rg_l (rg_of f1))
      refine And.intro (show 0 ≤ 2 ∧ 2 < 179 from by omega) ?_
      have m2 : σ1 53 2 = S.2.1 2 := B1.1 2 (by omega)
      have l2 : qlf x (σ1 55) 36 (σ1 53 2) (qadv x S).1 = (qlk x 12 (S.2.1 2) (qadv x S)) := by
        rw [m2]
        exact qlf_sh (by omega) (fun i i0 i1 => by rw [show (36 : Int) + i = 24 + (12 + i) by omega]; exact B1.2 (12 + i) (by omega) (by omega))
      have j2 : (qlk x 12 (S.2.1 2) (qadv x S)) < S.2.1 2 := qlk_b (by omega)
      have jj2 : -3 ≤ (qlk x 12 (S.2.1 2) (qadv x S)) := qlk_m (by omega)
      refine ⟨by omega, x, (qadv x S).1, T1, fun c2 σ2 F2 G2 => ?_, fun c2 σ2 T2 G2 E2 => ?_⟩
      · rw [l2] at c2 F2
        refine And.intro (fun (q : ¬ 0 = 0) => absurd q (by decide)) (fun _ => ?_)
        refine And.intro (show 0 ≤ 0 ∧ 0 ≤ 1 from by omega) ?_
        refine rRs_f hK (S := (qadv x S)) (k := -(qlk x 12 (S.2.1 2) (qadv x S))) (by unfold qPas; exact (if_neg (by omega)).trans (qtn_f (show (qlk x 12 (S.2.1 2) (qadv x S)) < 0 from c2))) (by omega) F2 (rgl_tr g1 (rg_l G2))
      · rw [l2] at c2 E2
        have B2 : rTb (qadv x S) σ2 := rTb_fr B1 (G2.1 53 (by decide)) (G2.1 55 (by decide))
        have g2 : rgl σ σ2 := rgl_tr g1 (rg_l G2)
        refine And.intro (fun _ => ?_) (fun (q : 1 = 0) => absurd q (by decide))
        refine And.intro (show 0 ≤ 2 ∧ 2 < 179 from by omega) ?_
        have m3 : σ2 53 2 = S.2.1 2 := B2.1 2 (by omega)
        have l3 : qlf x (σ2 55) 36 (σ2 53 2) (qadv x (qadv x S)).1 = (qlk x 12 (S.2.1 2) (qadv x (qadv x S))) := by
          rw [m3]
          exact qlf_sh (by omega) (fun i i0 i1 => by rw [show (36 : Int) + i = 24 + (12 + i) by omega]; exact B2.2 (12 + i) (by omega) (by omega))
        have j3 : (qlk x 12 (S.2.1 2) (qadv x (qadv x S))) < S.2.1 2 := qlk_b (by omega)
        have jj3 : -3 ≤ (qlk x 12 (S.2.1 2) (qadv x (qadv x S))) := qlk_m (by omega)
        refine ⟨by omega, x, (qadv x (qadv x S)).1, T2, fun c3 σ3 F3 G3 => ?_, fun c3 σ3 T3 G3 P3 E3 => ?_⟩
        · rw [l3] at c3 F3
          refine And.intro (fun (q : ¬ 0 = 0) => absurd q (by decide)) (fun _ => ?_)
          refine And.intro (show 0 ≤ 0 ∧ 0 ≤ 1 from by omega) ?_
          refine rRs_f hK (S := (qadv x (qadv x S))) (k := -(qlk x 12 (S.2.1 2) (qadv x (qadv x S)))) (by unfold qPas; exact (if_neg (by omega)).trans ((qtn_k (show 0 ≤ (qlk x 12 (S.2.1 2) (qadv x S)) from c2)).trans (qtn_f (show (qlk x 12 (S.2.1 2) (qadv x (qadv x S))) < 0 from c3)))) (by omega) F3 (rgl_tr g2 (rg_l G3))
        · rw [l3] at c3 E3
          have B3 : rTb (qadv x (qadv x S)) σ3 := rTb_fr B2 (G3.1 53 (by decide)) (G3.1 55 (by decide))
          have g3 : rgl σ σ3 := rgl_tr g2 (rg_l G3)
          refine And.intro (fun _ => ?_) (fun (q : 1 = 0) => absurd q (by decide))
          refine And.intro (fun (c4 : (σ2 12 18) = (σ3 12 18)) => ?_) (fun (c5 : ¬ (σ2 12 18) = (σ3 12 18)) => ?_)
          · have eP : qPas x robe S = if (qlk x 12 (S.2.1 2) (qadv x S)) = (qlk x 12 (S.2.1 2) (qadv x (qadv x S))) ∨ qjn S.2.1 (qlk x 12 (S.2.1 2) (qadv x S)) (qlk x 12 (S.2.1 2) (qadv x (qadv x S))) (S.2.1 3).toNat = true then (3, (qadv x (qadv x S))) else (0, qadv x (qJoin robe (qlk x 12 (S.2.1 2) (qadv x S)) (qlk x 12 (S.2.1 2) (qadv x (qadv x S))) (qadv x (qadv x S)))) := by
              unfold qPas
              exact (if_neg (by omega)).trans ((qtn_k (show 0 ≤ (qlk x 12 (S.2.1 2) (qadv x S)) from c2)).trans (qtn_k (show 0 ≤ (qlk x 12 (S.2.1 2) (qadv x (qadv x S))) from c3)))
            rw [← E2] at eP
            refine (show zGL E gJ1 mdT w gm_259 80 [(0, .inr (.inl 12)), (1, .inl robe), (2, .inl (σ 53 3)), (3, .inl (σ2 12 18)), (4, .inl 0), (5, .inl 0)] σ3 K from ?_)
            exact uk_259l X B (S := (qadv x (qadv x S))) (σ0 := σ) (a := σ2 12 18) (b := (qlk x 12 (S.2.1 2) (qadv x (qadv x S)))) hrb T3 (by have := qnmp_k (qlk_n c3); omega) (lim_ok B hb hT.1).1 B3 ⟨by show 0 ≤ S.2.1 3; omega, by show S.2.1 3 < 20; omega⟩ ⟨by show 0 ≤ S.2.1 4; have := hS.2.2.2.2.2.1; omega, by show S.2.1 4 ≤ 20; have := hS.2.2.2.2.2.1; omega⟩ (by omega) (by omega) b3 (by omega) g3 hK (fun q => eP.trans (if_pos q)) (fun q => eP.trans (if_neg q)) 21 0 0 (by show S.2.1 3 - 0 < ((21 : Nat) : Int); omega) (by omega) (by show 0 ≤ S.2.1 3; omega) (Or.inr ⟨rfl, Or.inl (by omega)⟩)
          · have eP : qPas x robe S = if (qlk x 12 (S.2.1 2) (qadv x S)) = (qlk x 12 (S.2.1 2) (qadv x (qadv x S))) ∨ qjn S.2.1 (qlk x 12 (S.2.1 2) (qadv x S)) (qlk x 12 (S.2.1 2) (qadv x (qadv x S))) (S.2.1 3).toNat = true then (3, (qadv x (qadv x S))) else (0, qadv x (qJoin robe (qlk x 12 (S.2.1 2) (qadv x S)) (qlk x 12 (S.2.1 2) (qadv x (qadv x S))) (qadv x (qadv x S)))) := by
              unfold qPas
              exact (if_neg (by omega)).trans ((qtn_k (show 0 ≤ (qlk x 12 (S.2.1 2) (qadv x S)) from c2)).trans (qtn_k (show 0 ≤ (qlk x 12 (S.2.1 2) (qadv x (qadv x S))) from c3)))
            rw [← E2] at eP
            refine (show zGL E gJ1 mdT w gm_259 80 [(0, .inr (.inl 12)), (1, .inl robe), (2, .inl (σ 53 3)), (3, .inl (σ2 12 18)), (4, .inl 1), (5, .inl 0)] σ3 K from ?_)
            exact uk_259l X B (S := (qadv x (qadv x S))) (σ0 := σ) (a := σ2 12 18) (b := (qlk x 12 (S.2.1 2) (qadv x (qadv x S)))) hrb T3 (by have := qnmp_k (qlk_n c3); omega) (lim_ok B hb hT.1).1 B3 ⟨by show 0 ≤ S.2.1 3; omega, by show S.2.1 3 < 20; omega⟩ ⟨by show 0 ≤ S.2.1 4; have := hS.2.2.2.2.2.1; omega, by show S.2.1 4 ≤ 20; have := hS.2.2.2.2.2.1; omega⟩ (by omega) (by omega) b3 (by omega) g3 hK (fun q => eP.trans (if_pos q)) (fun q => eP.trans (if_neg q)) 21 0 1 (by show S.2.1 3 - 0 < ((21 : Nat) : Int); omega) (by omega) (by show 0 ≤ S.2.1 3; omega) (Or.inl ⟨rfl, fun q => by rcases q with q | q; exact absurd q (by omega); exact absurd q Bool.false_ne_true⟩)
    · refine And.intro (by omega) ?_
      refine And.intro (show 0 ≤ 0 ∧ 0 ≤ 1 from by omega) ?_
      refine rRs_f hK (S := S) (k := 4) (by unfold qPas; rw [if_pos (by omega)]) (by decide) (rFl_bad hT) (rg_l rg_bad)
  · exact absurd h id
end ZU2
