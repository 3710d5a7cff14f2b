/-! EXACT WALK: sentence, the whole -/
section Z10
variable {E : zE} {J : List aJ} {md : aMd} {w : va_W} {σ : vS} {K : vK}
theorem z_md268 {i : Int} (h : 221 ≤ i ∧ i < 402) : vMd md268 52 i := Or.inr (Or.inr (Or.inr (Or.inr (Or.inl ⟨rfl, h.1, h.2⟩))))
theorem z_r221 : ∀ q : Int × Int, rgAt (zrg 52) 221 = some q → q = (0, 53) := by
  intro q hq
  have e : rgAt (zrg 52) 221 = some (0, 53) := by decide +kernel
  rw [e] at hq
  cases hq
  rfl
theorem z_r222 : ((List.range 402).all fun j => Nat.blt j 222 || decide (rgAt (zrg 52) j = some (Int.negSucc 2147483647, Int.ofNat 2147483647))) = true := by decide +kernel
theorem z_rg1 {x : Int} (h : 0 ≤ x ∧ x ≤ 53) : vRg (zrg 52) 221 x := fun q hq => by
  rw [z_r221 q hq]
  exact h
theorem z_rg2 {i x : Int} (hi : 222 ≤ i ∧ i < 402) (h : -2147483648 ≤ x ∧ x ≤ 2147483647) : vRg (zrg 52) i x := fun q hq => by
  have := List.all_eq_true.mp z_r222 i.toNat (List.mem_range.mpr (by omega))
  rw [Bool.or_eq_true, decide_eq_true_eq] at this
  rcases this with h1 | h1
  · have : i.toNat < 222 := Nat.le_of_ble_eq_true h1
    omega
  · have hq : rgAt (zrg 52) i.toNat = some q := hq
    rw [h1] at hq
    cases hq
    exact h
theorem xdz_R {s R : Int → Int} {n : Nat} (h : ∀ j : Int, 0 ≤ j → j < 3 * (n : Int) → s (222 + j) = R j) : ∀ i : Nat, i ≤ n → xdz s 221 i = zdp R i
  | 0, _ => rfl
  | i + 1, hi => by
    show xdz s 221 i + _ = zdp R i + _
    have e := h (3 * (i : Int)) (by omega) (by omega)
    have e2 : (221 : Int) + 1 + 3 * (i : Int) = 222 + 3 * (i : Int) := by omega
    rw [xdz_R h i (by omega), e2, e]
theorem xVPz_R {s R : Int → Int} {c : Int} (h0 : s 221 = c) (h1 : 0 ≤ c) (h : ∀ j : Int, 0 ≤ j → j < 3 * c → s (222 + j) = R j) (hv : zVP R c.toNat) : xVPz s 221 := by
  intro i hi
  have e2 : (221 : Int) + 1 + 3 * (i : Int) = 222 + 3 * (i : Int) := by omega
  rw [e2, xdz_R (n := c.toNat) (R := R) (fun j j0 j1 => h j j0 (by omega)) i (by omega), h (3 * (i : Int)) (by omega) (by omega)]
  exact hv i (by omega)
theorem z_sen3 (B : zB E) (h271 : zH E gJ1 (gm_271, 4) gc_271_0) (h223 : zH E gJ1 (gm_223, 3) gc_223_0) {c : Int} (c0 : 0 ≤ c ∧ c ≤ 40) (hK : ∀ (z : Int) (σ2 : vS), -2147483648 ≤ z ∧ z ≤ 2147483647 → vX σ2 → K (some (.inl z)) σ2) : ∀ (m : Nat) (i : Int) (σ : vS), 3 * c - i < (m : Int) → 0 ≤ i → i ≤ 3 * c → (xVPz (σ 74) 221 ∧ xVPz (σ 74) 623) → σ 12 46 = c → σ 52 221 = c → (∀ j : Int, 0 ≤ j → j < i → σ 52 (222 + j) = σ 54 j) → zVP (σ 54) c.toNat → (-2147483648 ≤ σ 12 47 ∧ σ 12 47 ≤ 2147483647) → zG E gJ1 md268 w gm_268 146 [(0, .inr (.inl 12)), (2, .inl i)] σ K := by
  intro m
  induction m with
  | zero => intro i σ h; omega
  | succ m ih =>
    intro i σ hm h0 h1 hX4 hc h221 hC hV ho
    refine zbd (fun hb => zgo B (zS_cons (z_271s B h271) (zS_cons (z_conP B (m := 223) rfl h223 rfl rfl) (zS_cons (z_243 B) (zS_cons (z_231 B) (zS_cons (z_230 B) (zS_cons (z_228 B) (zS_cons (z_233 B) (zS_cons (z_207 B) zS_nil)))))))) [94, 130, 120, 136] [(48, [0, 1]), (146, [0, 2])] (fun m => Nat.beq m.2.2.2.2.1 167) (by decide +kernel) ?_)
    have f1 : 0 ≤ σ 12 46 ∧ σ 12 46 ≤ 53 := zf B hb (t := 12) (f := 46) (by decide +kernel)
    refine And.intro (show -2147483648 ≤ (3 * (σ 12 46)) ∧ (3 * (σ 12 46)) ≤ 2147483647 from by omega) ?_
    refine And.intro (fun (c2 : (3 * (σ 12 46)) ≤ i) => ?_) (fun (c3 : i < (3 * (σ 12 46))) => ?_)
    · have f4 : (-2147483648) ≤ σ 12 47 ∧ σ 12 47 ≤ 2147483647 := zf B hb (t := 12) (f := 47) (by decide +kernel)
      show K (some (.inl (σ 12 47))) σ
      exact hK _ _ (by omega) ⟨xVPz_R h221 (by omega) (fun j j0 j1 => hC j j0 (by omega)) hV, hX4⟩
    · refine And.intro (show -2147483648 ≤ (222 + i) ∧ (222 + i) ≤ 2147483647 from by omega) ?_
      refine And.intro (show 0 ≤ i ∧ i < 160 from by omega) ?_
      have f5 : (-2147483648) ≤ σ 54 i ∧ σ 54 i ≤ 2147483647 := zb B hb (t := 54) (a := 0) (n := 160) (i := i) (by decide +kernel) (by omega) (by omega)
      refine And.intro (show 0 ≤ (222 + i) ∧ (222 + i) < 402 from by omega) ?_
      refine And.intro (show vRg (zrg 52) (222 + i) (σ 54 i) from z_rg2 (by omega) (by omega)) ?_
      refine And.intro (show vMd md268 52 (222 + i) from z_md268 (by omega)) ?_
      refine And.intro (show -2147483648 ≤ (i + 1) ∧ (i + 1) ≤ 2147483647 from by omega) ?_
      show zG E gJ1 md268 w gm_268 146 [(0, .inr (.inl 12)), (2, .inl (i + 1))] (vup σ 52 (222 + i) (σ 54 i)) K
      refine ih (i + 1) _ (by omega) (by omega) (by omega) hX4 hc (show vup σ 52 (222 + i) (σ 54 i) 52 221 = c from by rw [vup_f, ful_ne (by omega)]; exact h221) (fun j j0 j1 => ?_) hV ho
      show vup σ 52 (222 + i) (σ 54 i) 52 (222 + j) = σ 54 j
      rw [vup_f]
      by_cases hj : j = i
      · subst hj
        rw [ful_at]
      · rw [ful_ne (by omega)]
        exact hC j j0 (by omega)
theorem z_sen2 (B : zB E) (h271 : zH E gJ1 (gm_271, 4) gc_271_0) (h223 : zH E gJ1 (gm_223, 3) gc_223_0) {u : Int} (hK : ∀ (z : Int) (σ2 : vS), -2147483648 ≤ z ∧ z ≤ 2147483647 → vX σ2 → K (some (.inl z)) σ2) (hI : zIv σ u) (hw : 0 ≤ σ 12 50) (hX : vX σ) : zG E gJ1 md268 w gm_268 48 [(0, .inr (.inl 12)), (1, .inl 0)] σ K := by
  have hbd := zIw_b hI hw
  have hV : zVP (σ 54) (σ 12 46).toNat := by
    obtain ⟨_, _, _, _, _, _, _, _, _, _, _, h⟩ := hI
    exact h
  refine zbd (fun hb => zgo B (zS_cons (z_271s B h271) (zS_cons (z_conP B (m := 223) rfl h223 rfl rfl) (zS_cons (z_243 B) (zS_cons (z_231 B) (zS_cons (z_230 B) (zS_cons (z_228 B) (zS_cons (z_233 B) (zS_cons (z_207 B) zS_nil)))))))) [94, 130, 120, 136] [(48, [0, 1]), (146, [0, 2])] (fun m => Nat.beq m.2.2.2.2.1 167) (by decide +kernel) ?_)
  refine And.intro (fun _ => ?_) (fun (q : ¬ 0 = 0) => absurd q (by decide))
  have f1 : 0 ≤ σ 12 46 ∧ σ 12 46 ≤ 53 := zf B hb (t := 12) (f := 46) (by decide +kernel)
  refine And.intro (show 0 ≤ 221 ∧ 221 < 402 from by omega) ?_
  refine And.intro (show vRg (zrg 52) 221 (σ 12 46) from z_rg1 (by omega)) ?_
  refine And.intro (show vMd md268 52 221 from z_md268 (by omega)) ?_
  show zG E gJ1 md268 w gm_268 146 [(0, .inr (.inl 12)), (2, .inl 0)] (vup σ 52 221 (σ 12 46)) K
  exact z_sen3 (c := σ 12 46) B h271 h223 hbd.2.1 hK 200 0 _ (by omega) (by omega) (by omega) hX.2 rfl (show vup σ 52 221 (σ 12 46) 52 221 = σ 12 46 from vup_eq) (fun j j0 j1 => by omega) hV (show -2147483648 ≤ σ 12 47 ∧ σ 12 47 ≤ 2147483647 from by omega)
theorem z_sen1 (B : zB E) (h271 : zH E gJ1 (gm_271, 4) gc_271_0) (h223 : zH E gJ1 (gm_223, 3) gc_223_0) (hK : ∀ (z : Int) (σ2 : vS), -2147483648 ≤ z ∧ z ≤ 2147483647 → vX σ2 → K (some (.inl z)) σ2) : ∀ (m : Nat) (σ : vS) (u : Int), 4 * (20 - σ 12 47) + 2 * u + σ 12 50 < (m : Int) → zIv σ u → vX σ → (0 ≤ σ 12 50 ∧ σ 12 50 ≤ 1) → zG E gJ1 md268 w gm_268 48 [(0, .inr (.inl 12)), (1, .inl 1)] σ K := by
  intro m
  induction m with
  | zero =>
    intro σ u h hI _ hw
    have := zIw_b hI hw.1
    omega
  | succ m ih =>
    intro σ u hm hI hX hw
    have hbd := zIw_b hI hw.1
    have hI0 : σ 12 50 = 0 → zIw (σ 54) (σ 72) (σ 12 46) (σ 12 48) (σ 12 47) 0 u := fun e => by
      have h := hI
      unfold zIv at h
      rw [e] at h
      exact h
    refine zbd (fun hb => zgo B (zS_cons (z_271s B h271) (zS_cons (z_conP B (m := 223) rfl h223 rfl rfl) (zS_cons (z_243 B) (zS_cons (z_231 B) (zS_cons (z_230 B) (zS_cons (z_228 B) (zS_cons (z_233 B) (zS_cons (z_207 B) zS_nil)))))))) [94, 130, 120, 136] [(48, [0, 1]), (146, [0, 2])] (fun m => Nat.beq m.2.2.2.2.1 167) (by decide +kernel) ?_)
    refine And.intro (fun (q : 1 = 0) => absurd q (by decide)) (fun _ => ?_)
    have f1 : 0 ≤ σ 12 50 ∧ σ 12 50 ≤ 1 := zf B hb (t := 12) (f := 50) (by decide +kernel)
    refine And.intro (fun (c2 : (σ 12 50) = 0) => ?_) (fun (c3 : ¬ (σ 12 50) = 0) => ?_)
    · refine And.intro (fun _ => ?_) (fun (q : ¬ (σ 12 50) = 0) => (by exfalso; omega))
      refine fun (z4 : Int) (h5 : z4 = 0 ∨ z4 = 1) => ?_
      rcases h5 with rfl | rfl
      · refine fun (z6 : Int) (h7 : z6 = 0 ∨ z6 = 1) => ?_
        rcases h7 with rfl | rfl
        · refine fun (z8 : Int) (h9 : -1 ≤ z8 ∧ z8 ≤ 7) => ?_
          refine And.intro (fun (q : ¬ 0 = 0) => absurd q (by decide)) (fun _ => ?_)
          refine And.intro (fun (q : ¬ 0 = 0) => absurd q (by decide)) (fun _ => ?_)
          refine And.intro (fun (c10 : 0 ≤ z8) => ?_) (fun (c11 : z8 < 0) => ?_)
          · have f12 : (-2147483648) ≤ σ 12 47 ∧ σ 12 47 ≤ 2147483647 := zf B hb (t := 12) (f := 47) (by decide +kernel)
            refine And.intro (fun (c13 : (σ 12 47) = 20) => ?_) (fun (c14 : ¬ (σ 12 47) = 20) => ?_)
            · refine And.intro (show Int.negSucc 2147483647 ≤ 4 ∧ 4 ≤ 2147483647 from rgm (by omega)) ?_
              have f15 : 0 ≤ σ 12 12 ∧ σ 12 12 ≤ 940 := zf B hb (t := 12) (f := 12) (by decide +kernel)
              refine And.intro (show Int.negSucc 2147483647 ≤ (σ 12 12) ∧ (σ 12 12) ≤ 2147483647 from rgm (by omega)) ?_
              refine And.intro (show 0 ≤ 0 ∧ 0 ≤ 1 from by omega) ?_
              refine And.intro (show 0 ≤ 0 ∧ 0 ≤ 1 from by omega) ?_
              refine And.intro (fun (q : ¬ 0 = 0) => absurd q (by decide)) (fun _ => ?_)
              refine fun (z16 : Int) (h17 : -2147483648 ≤ z16 ∧ z16 ≤ 2147483647) (e18 : z16 = vsub (-1) (σ 12 12)) => ?_
              show K (some (.inl z16)) (vup (vup σ 12 15 4) 12 16 (σ 12 12))
              exact hK _ _ (by omega) (vX_fr hX rfl rfl)
            · have f19 : (-2147483648) ≤ σ 12 49 ∧ σ 12 49 ≤ 2147483647 := zf B hb (t := 12) (f := 49) (by decide +kernel)
              refine And.intro (fun (c20 : (σ 12 49) ≤ 8) => ?_) (fun (c21 : 8 < (σ 12 49)) => ?_)
              · refine And.intro (show -2147483648 ≤ ((σ 12 47) + 1) ∧ ((σ 12 47) + 1) ≤ 2147483647 from by omega) ?_
                refine And.intro (show Int.negSucc 2147483647 ≤ ((σ 12 47) + 1) ∧ ((σ 12 47) + 1) ≤ 2147483647 from rgm (by omega)) ?_
                refine And.intro (show vX (vup σ 12 47 ((σ 12 47) + 1)) from vX_fr hX rfl rfl) (And.intro (by decide +kernel) (fun (σ22 : vS) (a23 : vX σ22) (a24 : vBd (zso E) gST zuq σ22) (a25 : vFm zuq md271 (vup σ 12 47 ((σ 12 47) + 1)) σ22) => ?_))
                have e26 : σ22 12 46 = σ 12 46 := vFm_fl a25 (t := 12) (f := 46) rfl (by decide +kernel)
                have e27 : σ22 12 48 = σ 12 48 := vFm_fl a25 (t := 12) (f := 48) rfl (by decide +kernel)
                have e28 : σ22 12 47 = (σ 12 47) + 1 := vFm_fl a25 (t := 12) (f := 47) rfl (by decide +kernel)
                have e29 : σ22 12 50 = σ 12 50 := vFm_fl a25 (t := 12) (f := 50) rfl (by decide +kernel)
                have e30 : σ22 72 = σ 72 := vFm_at a25 rfl (by decide +kernel)
                have e31 : σ22 54 = σ 54 := vFm_at a25 rfl (by decide +kernel)
                have h32 : zIw (σ22 54) (σ22 72) (σ22 12 46) (σ22 12 48) (σ 12 47) 0 u := by rw [e31, e30, e26, e27]; exact (hI0 (by omega))
                refine And.intro (fun (q : ¬ 0 = 0) => absurd q (by decide)) (fun _ => ?_)
                refine And.intro (fun _ => ?_) (fun (q : ¬ 0 = 0) => absurd q (by decide))
                refine And.intro (show 0 ≤ 1 ∧ 1 ≤ 1 from by omega) ?_
                refine And.intro (show 0 ≤ 1 ∧ 1 ≤ 1 from by omega) ?_
                refine And.intro (fun (c33 : 2 ≤ z8) => ?_) (fun (c34 : z8 < 2) => ?_)
                · refine And.intro (fun (c35 : 4 ≤ z8) => ?_) (fun (c36 : z8 < 4) => ?_)
                  · have f37 : 0 ≤ σ22 12 11 ∧ σ22 12 11 ≤ 4 := zf B a24 (t := 12) (f := 11) (by decide +kernel)
                    refine And.intro (fun (c38 : ¬ (σ22 12 11) = 3) => ?_) (fun (c39 : (σ22 12 11) = 3) => ?_)
                    · refine And.intro (show Int.negSucc 2147483647 ≤ 1 ∧ 1 ≤ 2147483647 from rgm (by omega)) ?_
                      have f40 : 0 ≤ σ22 12 12 ∧ σ22 12 12 ≤ 940 := zf B a24 (t := 12) (f := 12) (by decide +kernel)
                      refine And.intro (show Int.negSucc 2147483647 ≤ (σ22 12 12) ∧ (σ22 12 12) ≤ 2147483647 from rgm (by omega)) ?_
                      refine And.intro (show 0 ≤ 0 ∧ 0 ≤ 1 from by omega) ?_
                      refine And.intro (show 0 ≤ 0 ∧ 0 ≤ 1 from by omega) ?_
                      refine And.intro (fun (q : ¬ 0 = 0) => absurd q (by decide)) (fun _ => ?_)
                      refine fun (z41 : Int) (h42 : -2147483648 ≤ z41 ∧ z41 ≤ 2147483647) (e43 : z41 = vsub (-1) (σ22 12 12)) => ?_
                      show K (some (.inl z41)) (vup (vup (vup σ22 12 50 1) 12 15 1) 12 16 (σ22 12 12))
                      exact hK _ _ (by omega) (vX_fr a23 rfl rfl)
                    · have f44 : (-2147483648) ≤ σ22 12 14 ∧ σ22 12 14 ≤ 2147483647 := zf B a24 (t := 12) (f := 14) (by decide +kernel)
                      refine And.intro (fun (c45 : (σ22 12 14) < 60) => ?_) (fun (c46 : 60 ≤ (σ22 12 14)) => ?_)
                      · refine And.intro (show Int.negSucc 2147483647 ≤ 1 ∧ 1 ≤ 2147483647 from rgm (by omega)) ?_
                        have f47 : 0 ≤ σ22 12 12 ∧ σ22 12 12 ≤ 940 := zf B a24 (t := 12) (f := 12) (by decide +kernel)
                        refine And.intro (show Int.negSucc 2147483647 ≤ (σ22 12 12) ∧ (σ22 12 12) ≤ 2147483647 from rgm (by omega)) ?_
                        refine And.intro (show 0 ≤ 0 ∧ 0 ≤ 1 from by omega) ?_
                        refine And.intro (show 0 ≤ 0 ∧ 0 ≤ 1 from by omega) ?_
                        refine And.intro (fun (q : ¬ 0 = 0) => absurd q (by decide)) (fun _ => ?_)
                        refine fun (z48 : Int) (h49 : -2147483648 ≤ z48 ∧ z48 ≤ 2147483647) (e50 : z48 = vsub (-1) (σ22 12 12)) => ?_
                        show K (some (.inl z48)) (vup (vup (vup σ22 12 50 1) 12 15 1) 12 16 (σ22 12 12))
                        exact hK _ _ (by omega) (vX_fr a23 rfl rfl)
                      · refine And.intro (fun (c51 : (σ22 12 14) ≤ 62) => ?_) (fun (c52 : 62 < (σ22 12 14)) => ?_)
                        · refine And.intro (show vX (vup σ22 12 50 1) from vX_fr a23 rfl rfl) (And.intro (by decide +kernel) (fun (σ53 : vS) (a54 : vX σ53) (a55 : vBd (zso E) gST zuq σ53) (a56 : vFm zuq md271 (vup σ22 12 50 1) σ53) => ?_))
                          have e57 : σ53 12 46 = σ22 12 46 := vFm_fl a56 (t := 12) (f := 46) rfl (by decide +kernel)
                          have e58 : σ53 12 48 = σ22 12 48 := vFm_fl a56 (t := 12) (f := 48) rfl (by decide +kernel)
                          have e59 : σ53 12 47 = σ22 12 47 := vFm_fl a56 (t := 12) (f := 47) rfl (by decide +kernel)
                          have e60 : σ53 12 50 = 1 := vFm_fl a56 (t := 12) (f := 50) rfl (by decide +kernel)
                          have e61 : σ53 72 = σ22 72 := vFm_at a56 rfl (by decide +kernel)
                          have e62 : σ53 54 = σ22 54 := vFm_at a56 rfl (by decide +kernel)
                          have h63 : zIw (σ53 54) (σ53 72) (σ53 12 46) (σ53 12 48) (σ 12 47) 0 u := by rw [e62, e61, e57, e58]; exact h32
                          have f64 : 0 ≤ σ53 12 11 ∧ σ53 12 11 ≤ 4 := zf B a55 (t := 12) (f := 11) (by decide +kernel)
                          refine And.intro (fun (c65 : (σ53 12 11) = 2) => ?_) (fun (c66 : ¬ (σ53 12 11) = 2) => ?_)
                          · have f67 : (-2147483648) ≤ σ53 12 14 ∧ σ53 12 14 ≤ 2147483647 := zf B a55 (t := 12) (f := 14) (by decide +kernel)
                            have f68 : 0 ≤ σ53 12 46 ∧ σ53 12 46 ≤ 53 := zf B a55 (t := 12) (f := 46) (by decide +kernel)
                            refine And.intro (show -2147483648 ≤ (3 * (σ53 12 46)) ∧ (3 * (σ53 12 46)) ≤ 2147483647 from by omega) ?_
                            refine And.intro (show 0 ≤ (3 * (σ53 12 46)) ∧ (3 * (σ53 12 46)) < 160 from by omega) ?_
                            refine And.intro (show Int.negSucc 2147483647 ≤ z8 ∧ z8 ≤ 2147483647 from rgm (by omega)) ?_
                            refine And.intro (show -2147483648 ≤ (3 * (σ53 12 46)) ∧ (3 * (σ53 12 46)) ≤ 2147483647 from by omega) ?_
                            refine And.intro (show -2147483648 ≤ ((3 * (σ53 12 46)) + 1) ∧ ((3 * (σ53 12 46)) + 1) ≤ 2147483647 from by omega) ?_
                            refine And.intro (show 0 ≤ ((3 * (σ53 12 46)) + 1) ∧ ((3 * (σ53 12 46)) + 1) < 160 from by omega) ?_
                            refine And.intro (show Int.negSucc 2147483647 ≤ (σ22 12 14) ∧ (σ22 12 14) ≤ 2147483647 from rgm (by omega)) ?_
                            refine And.intro (show -2147483648 ≤ (3 * (σ53 12 46)) ∧ (3 * (σ53 12 46)) ≤ 2147483647 from by omega) ?_
                            refine And.intro (show -2147483648 ≤ ((3 * (σ53 12 46)) + 2) ∧ ((3 * (σ53 12 46)) + 2) ≤ 2147483647 from by omega) ?_
                            refine And.intro (show 0 ≤ ((3 * (σ53 12 46)) + 2) ∧ ((3 * (σ53 12 46)) + 2) < 160 from by omega) ?_
                            refine And.intro (show Int.negSucc 2147483647 ≤ (σ53 12 14) ∧ (σ53 12 14) ≤ 2147483647 from rgm (by omega)) ?_
                            refine And.intro (show -2147483648 ≤ ((σ53 12 46) + 1) ∧ ((σ53 12 46) + 1) ≤ 2147483647 from by omega) ?_
                            refine And.intro (show 0 ≤ ((σ53 12 46) + 1) ∧ ((σ53 12 46) + 1) ≤ 53 from by omega) ?_
                            refine And.intro (show vX (vup (vup (vup (vup σ53 54 (3 * (σ53 12 46)) z8) 54 ((3 * (σ53 12 46)) + 1) (σ22 12 14)) 54 ((3 * (σ53 12 46)) + 2) (σ53 12 14)) 12 46 ((σ53 12 46) + 1)) from vX_fr a54 rfl rfl) (And.intro (by decide +kernel) (fun (σ69 : vS) (a70 : vX σ69) (a71 : vBd (zso E) gST zuq σ69) (a72 : vFm zuq md271 (vup (vup (vup (vup σ53 54 (3 * (σ53 12 46)) z8) 54 ((3 * (σ53 12 46)) + 1) (σ22 12 14)) 54 ((3 * (σ53 12 46)) + 2) (σ53 12 14)) 12 46 ((σ53 12 46) + 1)) σ69) => ?_))
                            have e73 : σ69 12 46 = (σ53 12 46) + 1 := vFm_fl a72 (t := 12) (f := 46) rfl (by decide +kernel)
                            have e74 : σ69 12 48 = σ53 12 48 := vFm_fl a72 (t := 12) (f := 48) rfl (by decide +kernel)
                            have e75 : σ69 12 47 = σ53 12 47 := vFm_fl a72 (t := 12) (f := 47) rfl (by decide +kernel)
                            have e76 : σ69 12 50 = σ53 12 50 := vFm_fl a72 (t := 12) (f := 50) rfl (by decide +kernel)
                            have e77 : σ69 72 = σ53 72 := vFm_at a72 rfl (by decide +kernel)
                            have e78 : σ69 54 = (vup (vup (vup (vup σ53 54 (3 * (σ53 12 46)) z8) 54 ((3 * (σ53 12 46)) + 1) (σ22 12 14)) 54 ((3 * (σ53 12 46)) + 2) (σ53 12 14)) 12 46 ((σ53 12 46) + 1)) 54 := vFm_at a72 rfl (by decide +kernel)
                            have h79 : zIw (σ69 54) (σ69 72) (σ69 12 46) (σ69 12 48) (σ 12 47 + 1) 1 u := by
                              rw [e78, e77, e73, e74, show (vup (vup (vup (vup σ53 54 (3 * (σ53 12 46)) z8) 54 ((3 * (σ53 12 46)) + 1) (σ22 12 14)) 54 ((3 * (σ53 12 46)) + 2) (σ53 12 14)) 12 46 ((σ53 12 46) + 1)) 54 = ful (ful (ful (σ53 54) (3 * (σ53 12 46)) z8) ((3 * (σ53 12 46)) + 1) (σ22 12 14)) ((3 * (σ53 12 46)) + 2) (σ53 12 14) from vup3]
                              exact zIw_leaf h63 ful3_lo ful3_at (by omega) (by omega)
                            refine And.intro (show 0 ≤ 1 ∧ 1 ≤ 1 from by omega) ?_
                            refine And.intro (fun _ => ?_) (fun (q : 1 = 0) => absurd q (by decide))
                            show zG E gJ1 md268 w gm_268 48 [(0, .inr (.inl 12)), (1, .inl 1)] σ69 K
                            have hF : zIv σ69 u := by
                              show zIw (σ69 54) (σ69 72) (σ69 12 46) (σ69 12 48) (σ69 12 47) (σ69 12 50) u
                              rw [show σ69 12 47 = σ 12 47 + 1 from by omega, show σ69 12 50 = 1 from by omega]
                              exact h79
                            exact ih σ69 u (by omega) hF a70 (by omega)
                          · refine And.intro (show Int.negSucc 2147483647 ≤ 1 ∧ 1 ≤ 2147483647 from rgm (by omega)) ?_
                            have f80 : 0 ≤ σ53 12 12 ∧ σ53 12 12 ≤ 940 := zf B a55 (t := 12) (f := 12) (by decide +kernel)
                            refine And.intro (show Int.negSucc 2147483647 ≤ (σ53 12 12) ∧ (σ53 12 12) ≤ 2147483647 from rgm (by omega)) ?_
                            refine And.intro (show 0 ≤ 0 ∧ 0 ≤ 1 from by omega) ?_
                            refine And.intro (show 0 ≤ 0 ∧ 0 ≤ 1 from by omega) ?_
                            refine And.intro (fun (q : ¬ 0 = 0) => absurd q (by decide)) (fun _ => ?_)
                            refine fun (z81 : Int) (h82 : -2147483648 ≤ z81 ∧ z81 ≤ 2147483647) (e83 : z81 = vsub (-1) (σ53 12 12)) => ?_
                            show K (some (.inl z81)) (vup (vup σ53 12 15 1) 12 16 (σ53 12 12))
                            exact hK _ _ (by omega) (vX_fr a54 rfl rfl)
                        · refine And.intro (show Int.negSucc 2147483647 ≤ 1 ∧ 1 ≤ 2147483647 from rgm (by omega)) ?_
                          have f84 : 0 ≤ σ22 12 12 ∧ σ22 12 12 ≤ 940 := zf B a24 (t := 12) (f := 12) (by decide +kernel)
                          refine And.intro (show Int.negSucc 2147483647 ≤ (σ22 12 12) ∧ (σ22 12 12) ≤ 2147483647 from rgm (by omega)) ?_
                          refine And.intro (show 0 ≤ 0 ∧ 0 ≤ 1 from by omega) ?_
                          refine And.intro (show 0 ≤ 0 ∧ 0 ≤ 1 from by omega) ?_
                          refine And.intro (fun (q : ¬ 0 = 0) => absurd q (by decide)) (fun _ => ?_)
                          refine fun (z85 : Int) (h86 : -2147483648 ≤ z85 ∧ z85 ≤ 2147483647) (e87 : z85 = vsub (-1) (σ22 12 12)) => ?_
                          show K (some (.inl z85)) (vup (vup (vup σ22 12 50 1) 12 15 1) 12 16 (σ22 12 12))
                          exact hK _ _ (by omega) (vX_fr a23 rfl rfl)
                  · refine And.intro ⟨rfl, trivial⟩ (And.intro (show vX (vup σ22 12 50 1) from vX_fr a23 rfl rfl) (fun (z88 : Int) (a89 : 0 ≤ z88 ∧ z88 ≤ 1) => ?_))
                    refine And.intro (fun (c90 : ¬ z88 = 0) => ?_) (fun (c91 : z88 = 0) => ?_)
                    · refine And.intro (fun (c92 : ¬ z8 = 2) => ?_) (fun (c93 : z8 = 2) => ?_)
                      · refine And.intro (show 0 ≤ 0 ∧ 0 < 402 from by omega) ?_
                        have f94 : 0 ≤ σ22 52 0 ∧ σ22 52 0 ≤ 6 := zb B a24 (t := 52) (a := 0) (n := 2) (i := 0) (by decide +kernel) (by omega) (by omega)
                        refine And.intro (show (0 ≤ 0 ∧ 0 ≤ 6) ∧ (0 ≤ (σ22 52 0) ∧ (σ22 52 0) ≤ 12) from by omega) (fun (z95 : Int) (h96 : -1 ≤ z95 ∧ z95 ≤ 11) => ?_)
                        refine And.intro (fun (c97 : 0 ≤ z95) => ?_) (fun (c98 : z95 < 0) => ?_)
                        · have f99 : 0 ≤ σ22 12 46 ∧ σ22 12 46 ≤ 53 := zf B a24 (t := 12) (f := 46) (by decide +kernel)
                          refine And.intro (show -2147483648 ≤ (3 * (σ22 12 46)) ∧ (3 * (σ22 12 46)) ≤ 2147483647 from by omega) ?_
                          refine And.intro (show 0 ≤ (3 * (σ22 12 46)) ∧ (3 * (σ22 12 46)) < 160 from by omega) ?_
                          refine And.intro (show Int.negSucc 2147483647 ≤ z8 ∧ z8 ≤ 2147483647 from rgm (by omega)) ?_
                          refine And.intro (show -2147483648 ≤ (3 * (σ22 12 46)) ∧ (3 * (σ22 12 46)) ≤ 2147483647 from by omega) ?_
                          refine And.intro (show -2147483648 ≤ ((3 * (σ22 12 46)) + 1) ∧ ((3 * (σ22 12 46)) + 1) ≤ 2147483647 from by omega) ?_
                          refine And.intro (show 0 ≤ ((3 * (σ22 12 46)) + 1) ∧ ((3 * (σ22 12 46)) + 1) < 160 from by omega) ?_
                          refine And.intro (show Int.negSucc 2147483647 ≤ 0 ∧ 0 ≤ 2147483647 from rgm (by omega)) ?_
                          refine And.intro (show -2147483648 ≤ (3 * (σ22 12 46)) ∧ (3 * (σ22 12 46)) ≤ 2147483647 from by omega) ?_
                          refine And.intro (show -2147483648 ≤ ((3 * (σ22 12 46)) + 2) ∧ ((3 * (σ22 12 46)) + 2) ≤ 2147483647 from by omega) ?_
                          refine And.intro (show 0 ≤ ((3 * (σ22 12 46)) + 2) ∧ ((3 * (σ22 12 46)) + 2) < 160 from by omega) ?_
                          refine And.intro (show Int.negSucc 2147483647 ≤ z95 ∧ z95 ≤ 2147483647 from rgm (by omega)) ?_
                          refine And.intro (show -2147483648 ≤ ((σ22 12 46) + 1) ∧ ((σ22 12 46) + 1) ≤ 2147483647 from by omega) ?_
                          refine And.intro (show 0 ≤ ((σ22 12 46) + 1) ∧ ((σ22 12 46) + 1) ≤ 53 from by omega) ?_
                          refine And.intro (show vX (vup (vup (vup (vup (vup σ22 12 50 1) 54 (3 * (σ22 12 46)) z8) 54 ((3 * (σ22 12 46)) + 1) 0) 54 ((3 * (σ22 12 46)) + 2) z95) 12 46 ((σ22 12 46) + 1)) from vX_fr a23 rfl rfl) (And.intro (by decide +kernel) (fun (σ100 : vS) (a101 : vX σ100) (a102 : vBd (zso E) gST zuq σ100) (a103 : vFm zuq md271 (vup (vup (vup (vup (vup σ22 12 50 1) 54 (3 * (σ22 12 46)) z8) 54 ((3 * (σ22 12 46)) + 1) 0) 54 ((3 * (σ22 12 46)) + 2) z95) 12 46 ((σ22 12 46) + 1)) σ100) => ?_))
                          have e104 : σ100 12 46 = (σ22 12 46) + 1 := vFm_fl a103 (t := 12) (f := 46) rfl (by decide +kernel)
                          have e105 : σ100 12 48 = σ22 12 48 := vFm_fl a103 (t := 12) (f := 48) rfl (by decide +kernel)
                          have e106 : σ100 12 47 = σ22 12 47 := vFm_fl a103 (t := 12) (f := 47) rfl (by decide +kernel)
                          have e107 : σ100 12 50 = 1 := vFm_fl a103 (t := 12) (f := 50) rfl (by decide +kernel)
                          have e108 : σ100 72 = σ22 72 := vFm_at a103 rfl (by decide +kernel)
                          have e109 : σ100 54 = (vup (vup (vup (vup (vup σ22 12 50 1) 54 (3 * (σ22 12 46)) z8) 54 ((3 * (σ22 12 46)) + 1) 0) 54 ((3 * (σ22 12 46)) + 2) z95) 12 46 ((σ22 12 46) + 1)) 54 := vFm_at a103 rfl (by decide +kernel)
                          have h110 : zIw (σ100 54) (σ100 72) (σ100 12 46) (σ100 12 48) (σ 12 47 + 1) 1 u := by
                            rw [e109, e108, e104, e105, show (vup (vup (vup (vup (vup σ22 12 50 1) 54 (3 * (σ22 12 46)) z8) 54 ((3 * (σ22 12 46)) + 1) 0) 54 ((3 * (σ22 12 46)) + 2) z95) 12 46 ((σ22 12 46) + 1)) 54 = ful (ful (ful (σ22 54) (3 * (σ22 12 46)) z8) ((3 * (σ22 12 46)) + 1) 0) ((3 * (σ22 12 46)) + 2) z95 from vup3]
                            exact zIw_leaf h32 ful3_lo ful3_at (by omega) (by omega)
                          refine And.intro (show 0 ≤ 1 ∧ 1 ≤ 1 from by omega) ?_
                          refine And.intro (fun _ => ?_) (fun (q : 1 = 0) => absurd q (by decide))
                          show zG E gJ1 md268 w gm_268 48 [(0, .inr (.inl 12)), (1, .inl 1)] σ100 K
                          have hF : zIv σ100 u := by
                            show zIw (σ100 54) (σ100 72) (σ100 12 46) (σ100 12 48) (σ100 12 47) (σ100 12 50) u
                            rw [show σ100 12 47 = σ 12 47 + 1 from by omega, show σ100 12 50 = 1 from by omega]
                            exact h110
                          exact ih σ100 u (by omega) hF a101 (by omega)
                        · refine And.intro (show Int.negSucc 2147483647 ≤ 3 ∧ 3 ≤ 2147483647 from rgm (by omega)) ?_
                          have f111 : 0 ≤ σ22 12 12 ∧ σ22 12 12 ≤ 940 := zf B a24 (t := 12) (f := 12) (by decide +kernel)
                          refine And.intro (show Int.negSucc 2147483647 ≤ (σ22 12 12) ∧ (σ22 12 12) ≤ 2147483647 from rgm (by omega)) ?_
                          refine And.intro (show 0 ≤ 0 ∧ 0 ≤ 1 from by omega) ?_
                          refine And.intro (show 0 ≤ 0 ∧ 0 ≤ 1 from by omega) ?_
                          refine And.intro (fun (q : ¬ 0 = 0) => absurd q (by decide)) (fun _ => ?_)
                          refine fun (z112 : Int) (h113 : -2147483648 ≤ z112 ∧ z112 ≤ 2147483647) (e114 : z112 = vsub (-1) (σ22 12 12)) => ?_
                          show K (some (.inl z112)) (vup (vup (vup σ22 12 50 1) 12 15 3) 12 16 (σ22 12 12))
                          exact hK _ _ (by omega) (vX_fr a23 rfl rfl)
                      · refine And.intro (show 0 ≤ 1 ∧ 1 < 402 from by omega) ?_
                        have f115 : 0 ≤ σ22 52 1 ∧ σ22 52 1 ≤ 6 := zb B a24 (t := 52) (a := 0) (n := 2) (i := 1) (by decide +kernel) (by omega) (by omega)
                        refine And.intro (show (0 ≤ 6 ∧ 6 ≤ 6) ∧ (0 ≤ (σ22 52 1) ∧ (σ22 52 1) ≤ 12) from by omega) (fun (z116 : Int) (h117 : -1 ≤ z116 ∧ z116 ≤ 11) => ?_)
                        refine And.intro (fun (c118 : 0 ≤ z116) => ?_) (fun (c119 : z116 < 0) => ?_)
                        · have f120 : 0 ≤ σ22 12 46 ∧ σ22 12 46 ≤ 53 := zf B a24 (t := 12) (f := 46) (by decide +kernel)
                          refine And.intro (show -2147483648 ≤ (3 * (σ22 12 46)) ∧ (3 * (σ22 12 46)) ≤ 2147483647 from by omega) ?_
                          refine And.intro (show 0 ≤ (3 * (σ22 12 46)) ∧ (3 * (σ22 12 46)) < 160 from by omega) ?_
                          refine And.intro (show Int.negSucc 2147483647 ≤ z8 ∧ z8 ≤ 2147483647 from rgm (by omega)) ?_
                          refine And.intro (show -2147483648 ≤ (3 * (σ22 12 46)) ∧ (3 * (σ22 12 46)) ≤ 2147483647 from by omega) ?_
                          refine And.intro (show -2147483648 ≤ ((3 * (σ22 12 46)) + 1) ∧ ((3 * (σ22 12 46)) + 1) ≤ 2147483647 from by omega) ?_
                          refine And.intro (show 0 ≤ ((3 * (σ22 12 46)) + 1) ∧ ((3 * (σ22 12 46)) + 1) < 160 from by omega) ?_
                          refine And.intro (show Int.negSucc 2147483647 ≤ 0 ∧ 0 ≤ 2147483647 from rgm (by omega)) ?_
                          refine And.intro (show -2147483648 ≤ (3 * (σ22 12 46)) ∧ (3 * (σ22 12 46)) ≤ 2147483647 from by omega) ?_
                          refine And.intro (show -2147483648 ≤ ((3 * (σ22 12 46)) + 2) ∧ ((3 * (σ22 12 46)) + 2) ≤ 2147483647 from by omega) ?_
                          refine And.intro (show 0 ≤ ((3 * (σ22 12 46)) + 2) ∧ ((3 * (σ22 12 46)) + 2) < 160 from by omega) ?_
                          refine And.intro (show Int.negSucc 2147483647 ≤ z116 ∧ z116 ≤ 2147483647 from rgm (by omega)) ?_
                          refine And.intro (show -2147483648 ≤ ((σ22 12 46) + 1) ∧ ((σ22 12 46) + 1) ≤ 2147483647 from by omega) ?_
                          refine And.intro (show 0 ≤ ((σ22 12 46) + 1) ∧ ((σ22 12 46) + 1) ≤ 53 from by omega) ?_
                          refine And.intro (show vX (vup (vup (vup (vup (vup σ22 12 50 1) 54 (3 * (σ22 12 46)) z8) 54 ((3 * (σ22 12 46)) + 1) 0) 54 ((3 * (σ22 12 46)) + 2) z116) 12 46 ((σ22 12 46) + 1)) from vX_fr a23 rfl rfl) (And.intro (by decide +kernel) (fun (σ121 : vS) (a122 : vX σ121) (a123 : vBd (zso E) gST zuq σ121) (a124 : vFm zuq md271 (vup (vup (vup (vup (vup σ22 12 50 1) 54 (3 * (σ22 12 46)) z8) 54 ((3 * (σ22 12 46)) + 1) 0) 54 ((3 * (σ22 12 46)) + 2) z116) 12 46 ((σ22 12 46) + 1)) σ121) => ?_))
                          have e125 : σ121 12 46 = (σ22 12 46) + 1 := vFm_fl a124 (t := 12) (f := 46) rfl (by decide +kernel)
                          have e126 : σ121 12 48 = σ22 12 48 := vFm_fl a124 (t := 12) (f := 48) rfl (by decide +kernel)
                          have e127 : σ121 12 47 = σ22 12 47 := vFm_fl a124 (t := 12) (f := 47) rfl (by decide +kernel)
                          have e128 : σ121 12 50 = 1 := vFm_fl a124 (t := 12) (f := 50) rfl (by decide +kernel)
                          have e129 : σ121 72 = σ22 72 := vFm_at a124 rfl (by decide +kernel)
                          have e130 : σ121 54 = (vup (vup (vup (vup (vup σ22 12 50 1) 54 (3 * (σ22 12 46)) z8) 54 ((3 * (σ22 12 46)) + 1) 0) 54 ((3 * (σ22 12 46)) + 2) z116) 12 46 ((σ22 12 46) + 1)) 54 := vFm_at a124 rfl (by decide +kernel)
                          have h131 : zIw (σ121 54) (σ121 72) (σ121 12 46) (σ121 12 48) (σ 12 47 + 1) 1 u := by
                            rw [e130, e129, e125, e126, show (vup (vup (vup (vup (vup σ22 12 50 1) 54 (3 * (σ22 12 46)) z8) 54 ((3 * (σ22 12 46)) + 1) 0) 54 ((3 * (σ22 12 46)) + 2) z116) 12 46 ((σ22 12 46) + 1)) 54 = ful (ful (ful (σ22 54) (3 * (σ22 12 46)) z8) ((3 * (σ22 12 46)) + 1) 0) ((3 * (σ22 12 46)) + 2) z116 from vup3]
                            exact zIw_leaf h32 ful3_lo ful3_at (by omega) (by omega)
                          refine And.intro (show 0 ≤ 1 ∧ 1 ≤ 1 from by omega) ?_
                          refine And.intro (fun _ => ?_) (fun (q : 1 = 0) => absurd q (by decide))
                          show zG E gJ1 md268 w gm_268 48 [(0, .inr (.inl 12)), (1, .inl 1)] σ121 K
                          have hF : zIv σ121 u := by
                            show zIw (σ121 54) (σ121 72) (σ121 12 46) (σ121 12 48) (σ121 12 47) (σ121 12 50) u
                            rw [show σ121 12 47 = σ 12 47 + 1 from by omega, show σ121 12 50 = 1 from by omega]
                            exact h131
                          exact ih σ121 u (by omega) hF a122 (by omega)
                        · refine And.intro (show Int.negSucc 2147483647 ≤ 3 ∧ 3 ≤ 2147483647 from rgm (by omega)) ?_
                          have f132 : 0 ≤ σ22 12 12 ∧ σ22 12 12 ≤ 940 := zf B a24 (t := 12) (f := 12) (by decide +kernel)
                          refine And.intro (show Int.negSucc 2147483647 ≤ (σ22 12 12) ∧ (σ22 12 12) ≤ 2147483647 from rgm (by omega)) ?_
                          refine And.intro (show 0 ≤ 0 ∧ 0 ≤ 1 from by omega) ?_
                          refine And.intro (show 0 ≤ 0 ∧ 0 ≤ 1 from by omega) ?_
                          refine And.intro (fun (q : ¬ 0 = 0) => absurd q (by decide)) (fun _ => ?_)
                          refine fun (z133 : Int) (h134 : -2147483648 ≤ z133 ∧ z133 ≤ 2147483647) (e135 : z133 = vsub (-1) (σ22 12 12)) => ?_
                          show K (some (.inl z133)) (vup (vup (vup σ22 12 50 1) 12 15 3) 12 16 (σ22 12 12))
                          exact hK _ _ (by omega) (vX_fr a23 rfl rfl)
                    · refine And.intro (show Int.negSucc 2147483647 ≤ 1 ∧ 1 ≤ 2147483647 from rgm (by omega)) ?_
                      have f136 : 0 ≤ σ22 12 12 ∧ σ22 12 12 ≤ 940 := zf B a24 (t := 12) (f := 12) (by decide +kernel)
                      refine And.intro (show Int.negSucc 2147483647 ≤ (σ22 12 12) ∧ (σ22 12 12) ≤ 2147483647 from rgm (by omega)) ?_
                      refine And.intro (show 0 ≤ 0 ∧ 0 ≤ 1 from by omega) ?_
                      refine And.intro (show 0 ≤ 0 ∧ 0 ≤ 1 from by omega) ?_
                      refine And.intro (fun (q : ¬ 0 = 0) => absurd q (by decide)) (fun _ => ?_)
                      refine fun (z137 : Int) (h138 : -2147483648 ≤ z137 ∧ z137 ≤ 2147483647) (e139 : z137 = vsub (-1) (σ22 12 12)) => ?_
                      show K (some (.inl z137)) (vup (vup (vup σ22 12 50 1) 12 15 1) 12 16 (σ22 12 12))
                      exact hK _ _ (by omega) (vX_fr a23 rfl rfl)
                · have f140 : 0 ≤ σ22 12 46 ∧ σ22 12 46 ≤ 53 := zf B a24 (t := 12) (f := 46) (by decide +kernel)
                  refine And.intro (show -2147483648 ≤ (3 * (σ22 12 46)) ∧ (3 * (σ22 12 46)) ≤ 2147483647 from by omega) ?_
                  refine And.intro (show 0 ≤ (3 * (σ22 12 46)) ∧ (3 * (σ22 12 46)) < 160 from by omega) ?_
                  refine And.intro (show Int.negSucc 2147483647 ≤ z8 ∧ z8 ≤ 2147483647 from rgm (by omega)) ?_
                  refine And.intro (show -2147483648 ≤ (3 * (σ22 12 46)) ∧ (3 * (σ22 12 46)) ≤ 2147483647 from by omega) ?_
                  refine And.intro (show -2147483648 ≤ ((3 * (σ22 12 46)) + 1) ∧ ((3 * (σ22 12 46)) + 1) ≤ 2147483647 from by omega) ?_
                  refine And.intro (show 0 ≤ ((3 * (σ22 12 46)) + 1) ∧ ((3 * (σ22 12 46)) + 1) < 160 from by omega) ?_
                  refine And.intro (show Int.negSucc 2147483647 ≤ 0 ∧ 0 ≤ 2147483647 from rgm (by omega)) ?_
                  refine And.intro (show -2147483648 ≤ (3 * (σ22 12 46)) ∧ (3 * (σ22 12 46)) ≤ 2147483647 from by omega) ?_
                  refine And.intro (show -2147483648 ≤ ((3 * (σ22 12 46)) + 2) ∧ ((3 * (σ22 12 46)) + 2) ≤ 2147483647 from by omega) ?_
                  refine And.intro (show 0 ≤ ((3 * (σ22 12 46)) + 2) ∧ ((3 * (σ22 12 46)) + 2) < 160 from by omega) ?_
                  refine And.intro (show Int.negSucc 2147483647 ≤ 0 ∧ 0 ≤ 2147483647 from rgm (by omega)) ?_
                  refine And.intro (show -2147483648 ≤ ((σ22 12 46) + 1) ∧ ((σ22 12 46) + 1) ≤ 2147483647 from by omega) ?_
                  refine And.intro (show 0 ≤ ((σ22 12 46) + 1) ∧ ((σ22 12 46) + 1) ≤ 53 from by omega) ?_
                  refine And.intro (show 0 ≤ 1 ∧ 1 ≤ 1 from by omega) ?_
                  refine And.intro (fun _ => ?_) (fun (q : 1 = 0) => absurd q (by decide))
                  show zG E gJ1 md268 w gm_268 48 [(0, .inr (.inl 12)), (1, .inl 1)] (vup (vup (vup (vup (vup σ22 12 50 1) 54 (3 * (σ22 12 46)) z8) 54 ((3 * (σ22 12 46)) + 1) 0) 54 ((3 * (σ22 12 46)) + 2) 0) 12 46 ((σ22 12 46) + 1)) K
                  have hF : zIv (vup (vup (vup (vup (vup σ22 12 50 1) 54 (3 * (σ22 12 46)) z8) 54 ((3 * (σ22 12 46)) + 1) 0) 54 ((3 * (σ22 12 46)) + 2) 0) 12 46 ((σ22 12 46) + 1)) u := by
                    show zIw ((vup (vup (vup (vup (vup σ22 12 50 1) 54 (3 * (σ22 12 46)) z8) 54 ((3 * (σ22 12 46)) + 1) 0) 54 ((3 * (σ22 12 46)) + 2) 0) 12 46 ((σ22 12 46) + 1)) 54) (σ22 72) (σ22 12 46 + 1) (σ22 12 48) (σ22 12 47) 1 u
                    rw [show σ22 12 47 = σ 12 47 + 1 from by omega, show (vup (vup (vup (vup (vup σ22 12 50 1) 54 (3 * (σ22 12 46)) z8) 54 ((3 * (σ22 12 46)) + 1) 0) 54 ((3 * (σ22 12 46)) + 2) 0) 12 46 ((σ22 12 46) + 1)) 54 = ful (ful (ful (σ22 54) (3 * (σ22 12 46)) z8) ((3 * (σ22 12 46)) + 1) 0) ((3 * (σ22 12 46)) + 2) 0 from vup3]
                    exact zIw_leaf h32 ful3_lo ful3_at (by omega) (by omega)
                  exact ih (vup (vup (vup (vup (vup σ22 12 50 1) 54 (3 * (σ22 12 46)) z8) 54 ((3 * (σ22 12 46)) + 1) 0) 54 ((3 * (σ22 12 46)) + 2) 0) 12 46 ((σ22 12 46) + 1)) u (show 4 * (20 - σ22 12 47) + 2 * u + 1 < (m : Int) from by omega) hF (vX_fr a23 rfl rfl) (show (0 : Int) ≤ 1 ∧ (1 : Int) ≤ 1 from by omega)
              · refine And.intro (show Int.negSucc 2147483647 ≤ 4 ∧ 4 ≤ 2147483647 from rgm (by omega)) ?_
                have f141 : 0 ≤ σ 12 12 ∧ σ 12 12 ≤ 940 := zf B hb (t := 12) (f := 12) (by decide +kernel)
                refine And.intro (show Int.negSucc 2147483647 ≤ (σ 12 12) ∧ (σ 12 12) ≤ 2147483647 from rgm (by omega)) ?_
                refine And.intro (show 0 ≤ 0 ∧ 0 ≤ 1 from by omega) ?_
                refine And.intro (show 0 ≤ 0 ∧ 0 ≤ 1 from by omega) ?_
                refine And.intro (fun (q : ¬ 0 = 0) => absurd q (by decide)) (fun _ => ?_)
                refine fun (z142 : Int) (h143 : -2147483648 ≤ z142 ∧ z142 ≤ 2147483647) (e144 : z142 = vsub (-1) (σ 12 12)) => ?_
                show K (some (.inl z142)) (vup (vup σ 12 15 4) 12 16 (σ 12 12))
                exact hK _ _ (by omega) (vX_fr hX rfl rfl)
          · refine And.intro (show Int.negSucc 2147483647 ≤ 1 ∧ 1 ≤ 2147483647 from rgm (by omega)) ?_
            have f145 : 0 ≤ σ 12 12 ∧ σ 12 12 ≤ 940 := zf B hb (t := 12) (f := 12) (by decide +kernel)
            refine And.intro (show Int.negSucc 2147483647 ≤ (σ 12 12) ∧ (σ 12 12) ≤ 2147483647 from rgm (by omega)) ?_
            refine And.intro (show 0 ≤ 0 ∧ 0 ≤ 1 from by omega) ?_
            refine And.intro (show 0 ≤ 0 ∧ 0 ≤ 1 from by omega) ?_
            refine And.intro (fun (q : ¬ 0 = 0) => absurd q (by decide)) (fun _ => ?_)
            refine fun (z146 : Int) (h147 : -2147483648 ≤ z146 ∧ z146 ≤ 2147483647) (e148 : z146 = vsub (-1) (σ 12 12)) => ?_
            show K (some (.inl z146)) (vup (vup σ 12 15 1) 12 16 (σ 12 12))
            exact hK _ _ (by omega) (vX_fr hX rfl rfl)
        · refine fun (z149 : Int) (h150 : -1 ≤ z149 ∧ z149 ≤ 7) => ?_
          refine And.intro (fun (q : ¬ 0 = 0) => absurd q (by decide)) (fun _ => ?_)
          refine And.intro (fun _ => ?_) (fun (q : 1 = 0) => absurd q (by decide))
          have f151 : (-2147483648) ≤ σ 12 47 ∧ σ 12 47 ≤ 2147483647 := zf B hb (t := 12) (f := 47) (by decide +kernel)
          refine And.intro (fun (c152 : (σ 12 47) = 20) => ?_) (fun (c153 : ¬ (σ 12 47) = 20) => ?_)
          · refine And.intro (show Int.negSucc 2147483647 ≤ 4 ∧ 4 ≤ 2147483647 from rgm (by omega)) ?_
            have f154 : 0 ≤ σ 12 12 ∧ σ 12 12 ≤ 940 := zf B hb (t := 12) (f := 12) (by decide +kernel)
            refine And.intro (show Int.negSucc 2147483647 ≤ (σ 12 12) ∧ (σ 12 12) ≤ 2147483647 from rgm (by omega)) ?_
            refine And.intro (show 0 ≤ 0 ∧ 0 ≤ 1 from by omega) ?_
            refine And.intro (show 0 ≤ 0 ∧ 0 ≤ 1 from by omega) ?_
            refine And.intro (fun (q : ¬ 0 = 0) => absurd q (by decide)) (fun _ => ?_)
            refine fun (z155 : Int) (h156 : -2147483648 ≤ z155 ∧ z155 ≤ 2147483647) (e157 : z155 = vsub (-1) (σ 12 12)) => ?_
            show K (some (.inl z155)) (vup (vup σ 12 15 4) 12 16 (σ 12 12))
            exact hK _ _ (by omega) (vX_fr hX rfl rfl)
          · have f158 : (-2147483648) ≤ σ 12 49 ∧ σ 12 49 ≤ 2147483647 := zf B hb (t := 12) (f := 49) (by decide +kernel)
            refine And.intro (fun (c159 : (σ 12 49) ≤ 8) => ?_) (fun (c160 : 8 < (σ 12 49)) => ?_)
            · refine And.intro (show -2147483648 ≤ ((σ 12 47) + 1) ∧ ((σ 12 47) + 1) ≤ 2147483647 from by omega) ?_
              refine And.intro (show Int.negSucc 2147483647 ≤ ((σ 12 47) + 1) ∧ ((σ 12 47) + 1) ≤ 2147483647 from rgm (by omega)) ?_
              refine And.intro (show vX (vup σ 12 47 ((σ 12 47) + 1)) from vX_fr hX rfl rfl) (And.intro (by decide +kernel) (fun (σ161 : vS) (a162 : vX σ161) (a163 : vBd (zso E) gST zuq σ161) (a164 : vFm zuq md271 (vup σ 12 47 ((σ 12 47) + 1)) σ161) => ?_))
              have e165 : σ161 12 46 = σ 12 46 := vFm_fl a164 (t := 12) (f := 46) rfl (by decide +kernel)
              have e166 : σ161 12 48 = σ 12 48 := vFm_fl a164 (t := 12) (f := 48) rfl (by decide +kernel)
              have e167 : σ161 12 47 = (σ 12 47) + 1 := vFm_fl a164 (t := 12) (f := 47) rfl (by decide +kernel)
              have e168 : σ161 12 50 = σ 12 50 := vFm_fl a164 (t := 12) (f := 50) rfl (by decide +kernel)
              have e169 : σ161 72 = σ 72 := vFm_at a164 rfl (by decide +kernel)
              have e170 : σ161 54 = σ 54 := vFm_at a164 rfl (by decide +kernel)
              have h171 : zIw (σ161 54) (σ161 72) (σ161 12 46) (σ161 12 48) (σ 12 47) 0 u := by rw [e170, e169, e165, e166]; exact (hI0 (by omega))
              refine And.intro (fun (q : ¬ 0 = 0) => absurd q (by decide)) (fun _ => ?_)
              refine And.intro (fun (q : 1 = 0) => absurd q (by decide)) (fun _ => ?_)
              have f172 : 0 ≤ σ161 12 48 ∧ σ161 12 48 ≤ 45 := zf B a163 (t := 12) (f := 48) (by decide +kernel)
              refine And.intro (fun _ => ?_) (fun (q : ¬ 0 = 0) => absurd q (by decide))
              refine And.intro (show 0 ≤ (σ161 12 48) ∧ (σ161 12 48) < 45 from by omega) ?_
              refine And.intro (show Int.negSucc 2147483647 ≤ 23 ∧ 23 ≤ 2147483647 from rgm (by omega)) ?_
              refine And.intro (show -2147483648 ≤ ((σ161 12 48) + 1) ∧ ((σ161 12 48) + 1) ≤ 2147483647 from by omega) ?_
              refine And.intro (show 0 ≤ ((σ161 12 48) + 1) ∧ ((σ161 12 48) + 1) ≤ 45 from by omega) ?_
              have f173 : (-2147483648) ≤ σ161 12 49 ∧ σ161 12 49 ≤ 2147483647 := zf B a163 (t := 12) (f := 49) (by decide +kernel)
              refine fun (z174 : Int) (h175 : -2147483648 ≤ z174 ∧ z174 ≤ 2147483647) (e176 : z174 = vadd (σ161 12 49) 1) => ?_
              refine And.intro (show Int.negSucc 2147483647 ≤ z174 ∧ z174 ≤ 2147483647 from rgm (by omega)) ?_
              refine And.intro (show 0 ≤ 1 ∧ 1 ≤ 1 from by omega) ?_
              refine And.intro (fun _ => ?_) (fun (q : 1 = 0) => absurd q (by decide))
              show zG E gJ1 md268 w gm_268 48 [(0, .inr (.inl 12)), (1, .inl 1)] (vup (vup (vup σ161 72 (σ161 12 48) 23) 12 48 ((σ161 12 48) + 1)) 12 49 z174) K
              have hF : zIv (vup (vup (vup σ161 72 (σ161 12 48) 23) 12 48 ((σ161 12 48) + 1)) 12 49 z174) (u + 1) := by
                show zIw (σ161 54) ((vup (vup (vup σ161 72 (σ161 12 48) 23) 12 48 ((σ161 12 48) + 1)) 12 49 z174) 72) (σ161 12 46) (σ161 12 48 + 1) (σ161 12 47) (σ161 12 50) (u + 1)
                rw [show σ161 12 47 = σ 12 47 + 1 from by omega, show σ161 12 50 = 0 from by omega, show (vup (vup (vup σ161 72 (σ161 12 48) 23) 12 48 ((σ161 12 48) + 1)) 12 49 z174) 72 = ful (σ161 72) (σ161 12 48) 23 from vup_f]
                exact zIw_push h171 (by omega) (by omega)
              exact ih (vup (vup (vup σ161 72 (σ161 12 48) 23) 12 48 ((σ161 12 48) + 1)) 12 49 z174) (u + 1) (show 4 * (20 - σ161 12 47) + 2 * (u + 1) + σ161 12 50 < (m : Int) from by omega) hF (vX_fr a162 rfl rfl) (show 0 ≤ σ161 12 50 ∧ σ161 12 50 ≤ 1 from by omega)
            · refine And.intro (show Int.negSucc 2147483647 ≤ 4 ∧ 4 ≤ 2147483647 from rgm (by omega)) ?_
              have f177 : 0 ≤ σ 12 12 ∧ σ 12 12 ≤ 940 := zf B hb (t := 12) (f := 12) (by decide +kernel)
              refine And.intro (show Int.negSucc 2147483647 ≤ (σ 12 12) ∧ (σ 12 12) ≤ 2147483647 from rgm (by omega)) ?_
              refine And.intro (show 0 ≤ 0 ∧ 0 ≤ 1 from by omega) ?_
              refine And.intro (show 0 ≤ 0 ∧ 0 ≤ 1 from by omega) ?_
              refine And.intro (fun (q : ¬ 0 = 0) => absurd q (by decide)) (fun _ => ?_)
              refine fun (z178 : Int) (h179 : -2147483648 ≤ z178 ∧ z178 ≤ 2147483647) (e180 : z178 = vsub (-1) (σ 12 12)) => ?_
              show K (some (.inl z178)) (vup (vup σ 12 15 4) 12 16 (σ 12 12))
              exact hK _ _ (by omega) (vX_fr hX rfl rfl)
      · refine fun (z181 : Int) (h182 : z181 = 0 ∨ z181 = 1) => ?_
        rcases h182 with rfl | rfl
        · refine fun (z183 : Int) (h184 : -1 ≤ z183 ∧ z183 ≤ 7) => ?_
          refine And.intro (fun _ => ?_) (fun (q : 1 = 0) => absurd q (by decide))
          have f185 : (-2147483648) ≤ σ 12 47 ∧ σ 12 47 ≤ 2147483647 := zf B hb (t := 12) (f := 47) (by decide +kernel)
          refine And.intro (fun (c186 : (σ 12 47) = 20) => ?_) (fun (c187 : ¬ (σ 12 47) = 20) => ?_)
          · refine And.intro (show Int.negSucc 2147483647 ≤ 4 ∧ 4 ≤ 2147483647 from rgm (by omega)) ?_
            have f188 : 0 ≤ σ 12 12 ∧ σ 12 12 ≤ 940 := zf B hb (t := 12) (f := 12) (by decide +kernel)
            refine And.intro (show Int.negSucc 2147483647 ≤ (σ 12 12) ∧ (σ 12 12) ≤ 2147483647 from rgm (by omega)) ?_
            refine And.intro (show 0 ≤ 0 ∧ 0 ≤ 1 from by omega) ?_
            refine And.intro (show 0 ≤ 0 ∧ 0 ≤ 1 from by omega) ?_
            refine And.intro (fun (q : ¬ 0 = 0) => absurd q (by decide)) (fun _ => ?_)
            refine fun (z189 : Int) (h190 : -2147483648 ≤ z189 ∧ z189 ≤ 2147483647) (e191 : z189 = vsub (-1) (σ 12 12)) => ?_
            show K (some (.inl z189)) (vup (vup σ 12 15 4) 12 16 (σ 12 12))
            exact hK _ _ (by omega) (vX_fr hX rfl rfl)
          · have f192 : (-2147483648) ≤ σ 12 49 ∧ σ 12 49 ≤ 2147483647 := zf B hb (t := 12) (f := 49) (by decide +kernel)
            refine And.intro (fun (c193 : (σ 12 49) ≤ 8) => ?_) (fun (c194 : 8 < (σ 12 49)) => ?_)
            · refine And.intro (show -2147483648 ≤ ((σ 12 47) + 1) ∧ ((σ 12 47) + 1) ≤ 2147483647 from by omega) ?_
              refine And.intro (show Int.negSucc 2147483647 ≤ ((σ 12 47) + 1) ∧ ((σ 12 47) + 1) ≤ 2147483647 from rgm (by omega)) ?_
              refine And.intro (show vX (vup σ 12 47 ((σ 12 47) + 1)) from vX_fr hX rfl rfl) (And.intro (by decide +kernel) (fun (σ195 : vS) (a196 : vX σ195) (a197 : vBd (zso E) gST zuq σ195) (a198 : vFm zuq md271 (vup σ 12 47 ((σ 12 47) + 1)) σ195) => ?_))
              have e199 : σ195 12 46 = σ 12 46 := vFm_fl a198 (t := 12) (f := 46) rfl (by decide +kernel)
              have e200 : σ195 12 48 = σ 12 48 := vFm_fl a198 (t := 12) (f := 48) rfl (by decide +kernel)
              have e201 : σ195 12 47 = (σ 12 47) + 1 := vFm_fl a198 (t := 12) (f := 47) rfl (by decide +kernel)
              have e202 : σ195 12 50 = σ 12 50 := vFm_fl a198 (t := 12) (f := 50) rfl (by decide +kernel)
              have e203 : σ195 72 = σ 72 := vFm_at a198 rfl (by decide +kernel)
              have e204 : σ195 54 = σ 54 := vFm_at a198 rfl (by decide +kernel)
              have h205 : zIw (σ195 54) (σ195 72) (σ195 12 46) (σ195 12 48) (σ 12 47) 0 u := by rw [e204, e203, e199, e200]; exact (hI0 (by omega))
              refine And.intro (fun _ => ?_) (fun (q : 1 = 0) => absurd q (by decide))
              have f206 : 0 ≤ σ195 12 48 ∧ σ195 12 48 ≤ 45 := zf B a197 (t := 12) (f := 48) (by decide +kernel)
              refine And.intro (fun (q : 1 = 0) => absurd q (by decide)) (fun _ => ?_)
              refine And.intro (show 0 ≤ (σ195 12 48) ∧ (σ195 12 48) < 45 from by omega) ?_
              refine And.intro (show Int.negSucc 2147483647 ≤ 20 ∧ 20 ≤ 2147483647 from rgm (by omega)) ?_
              refine And.intro (show -2147483648 ≤ ((σ195 12 48) + 1) ∧ ((σ195 12 48) + 1) ≤ 2147483647 from by omega) ?_
              refine And.intro (show 0 ≤ ((σ195 12 48) + 1) ∧ ((σ195 12 48) + 1) ≤ 45 from by omega) ?_
              have f207 : (-2147483648) ≤ σ195 12 49 ∧ σ195 12 49 ≤ 2147483647 := zf B a197 (t := 12) (f := 49) (by decide +kernel)
              refine fun (z208 : Int) (h209 : -2147483648 ≤ z208 ∧ z208 ≤ 2147483647) (e210 : z208 = vadd (σ195 12 49) 1) => ?_
              refine And.intro (show Int.negSucc 2147483647 ≤ z208 ∧ z208 ≤ 2147483647 from rgm (by omega)) ?_
              refine And.intro (show 0 ≤ 1 ∧ 1 ≤ 1 from by omega) ?_
              refine And.intro (fun _ => ?_) (fun (q : 1 = 0) => absurd q (by decide))
              show zG E gJ1 md268 w gm_268 48 [(0, .inr (.inl 12)), (1, .inl 1)] (vup (vup (vup σ195 72 (σ195 12 48) 20) 12 48 ((σ195 12 48) + 1)) 12 49 z208) K
              have hF : zIv (vup (vup (vup σ195 72 (σ195 12 48) 20) 12 48 ((σ195 12 48) + 1)) 12 49 z208) (u + 1) := by
                show zIw (σ195 54) ((vup (vup (vup σ195 72 (σ195 12 48) 20) 12 48 ((σ195 12 48) + 1)) 12 49 z208) 72) (σ195 12 46) (σ195 12 48 + 1) (σ195 12 47) (σ195 12 50) (u + 1)
                rw [show σ195 12 47 = σ 12 47 + 1 from by omega, show σ195 12 50 = 0 from by omega, show (vup (vup (vup σ195 72 (σ195 12 48) 20) 12 48 ((σ195 12 48) + 1)) 12 49 z208) 72 = ful (σ195 72) (σ195 12 48) 20 from vup_f]
                exact zIw_push h205 (by omega) (by omega)
              exact ih (vup (vup (vup σ195 72 (σ195 12 48) 20) 12 48 ((σ195 12 48) + 1)) 12 49 z208) (u + 1) (show 4 * (20 - σ195 12 47) + 2 * (u + 1) + σ195 12 50 < (m : Int) from by omega) hF (vX_fr a196 rfl rfl) (show 0 ≤ σ195 12 50 ∧ σ195 12 50 ≤ 1 from by omega)
            · refine And.intro (show Int.negSucc 2147483647 ≤ 4 ∧ 4 ≤ 2147483647 from rgm (by omega)) ?_
              have f211 : 0 ≤ σ 12 12 ∧ σ 12 12 ≤ 940 := zf B hb (t := 12) (f := 12) (by decide +kernel)
              refine And.intro (show Int.negSucc 2147483647 ≤ (σ 12 12) ∧ (σ 12 12) ≤ 2147483647 from rgm (by omega)) ?_
              refine And.intro (show 0 ≤ 0 ∧ 0 ≤ 1 from by omega) ?_
              refine And.intro (show 0 ≤ 0 ∧ 0 ≤ 1 from by omega) ?_
              refine And.intro (fun (q : ¬ 0 = 0) => absurd q (by decide)) (fun _ => ?_)
              refine fun (z212 : Int) (h213 : -2147483648 ≤ z212 ∧ z212 ≤ 2147483647) (e214 : z212 = vsub (-1) (σ 12 12)) => ?_
              show K (some (.inl z212)) (vup (vup σ 12 15 4) 12 16 (σ 12 12))
              exact hK _ _ (by omega) (vX_fr hX rfl rfl)
        · refine fun (z215 : Int) (h216 : -1 ≤ z215 ∧ z215 ≤ 7) => ?_
          refine And.intro (fun _ => ?_) (fun (q : 1 = 0) => absurd q (by decide))
          have f217 : (-2147483648) ≤ σ 12 47 ∧ σ 12 47 ≤ 2147483647 := zf B hb (t := 12) (f := 47) (by decide +kernel)
          refine And.intro (fun (c218 : (σ 12 47) = 20) => ?_) (fun (c219 : ¬ (σ 12 47) = 20) => ?_)
          · refine And.intro (show Int.negSucc 2147483647 ≤ 4 ∧ 4 ≤ 2147483647 from rgm (by omega)) ?_
            have f220 : 0 ≤ σ 12 12 ∧ σ 12 12 ≤ 940 := zf B hb (t := 12) (f := 12) (by decide +kernel)
            refine And.intro (show Int.negSucc 2147483647 ≤ (σ 12 12) ∧ (σ 12 12) ≤ 2147483647 from rgm (by omega)) ?_
            refine And.intro (show 0 ≤ 0 ∧ 0 ≤ 1 from by omega) ?_
            refine And.intro (show 0 ≤ 0 ∧ 0 ≤ 1 from by omega) ?_
            refine And.intro (fun (q : ¬ 0 = 0) => absurd q (by decide)) (fun _ => ?_)
            refine fun (z221 : Int) (h222 : -2147483648 ≤ z221 ∧ z221 ≤ 2147483647) (e223 : z221 = vsub (-1) (σ 12 12)) => ?_
            show K (some (.inl z221)) (vup (vup σ 12 15 4) 12 16 (σ 12 12))
            exact hK _ _ (by omega) (vX_fr hX rfl rfl)
          · have f224 : (-2147483648) ≤ σ 12 49 ∧ σ 12 49 ≤ 2147483647 := zf B hb (t := 12) (f := 49) (by decide +kernel)
            refine And.intro (fun (c225 : (σ 12 49) ≤ 8) => ?_) (fun (c226 : 8 < (σ 12 49)) => ?_)
            · refine And.intro (show -2147483648 ≤ ((σ 12 47) + 1) ∧ ((σ 12 47) + 1) ≤ 2147483647 from by omega) ?_
              refine And.intro (show Int.negSucc 2147483647 ≤ ((σ 12 47) + 1) ∧ ((σ 12 47) + 1) ≤ 2147483647 from rgm (by omega)) ?_
              refine And.intro (show vX (vup σ 12 47 ((σ 12 47) + 1)) from vX_fr hX rfl rfl) (And.intro (by decide +kernel) (fun (σ227 : vS) (a228 : vX σ227) (a229 : vBd (zso E) gST zuq σ227) (a230 : vFm zuq md271 (vup σ 12 47 ((σ 12 47) + 1)) σ227) => ?_))
              have e231 : σ227 12 46 = σ 12 46 := vFm_fl a230 (t := 12) (f := 46) rfl (by decide +kernel)
              have e232 : σ227 12 48 = σ 12 48 := vFm_fl a230 (t := 12) (f := 48) rfl (by decide +kernel)
              have e233 : σ227 12 47 = (σ 12 47) + 1 := vFm_fl a230 (t := 12) (f := 47) rfl (by decide +kernel)
              have e234 : σ227 12 50 = σ 12 50 := vFm_fl a230 (t := 12) (f := 50) rfl (by decide +kernel)
              have e235 : σ227 72 = σ 72 := vFm_at a230 rfl (by decide +kernel)
              have e236 : σ227 54 = σ 54 := vFm_at a230 rfl (by decide +kernel)
              have h237 : zIw (σ227 54) (σ227 72) (σ227 12 46) (σ227 12 48) (σ 12 47) 0 u := by rw [e236, e235, e231, e232]; exact (hI0 (by omega))
              refine And.intro (fun _ => ?_) (fun (q : 1 = 0) => absurd q (by decide))
              have f238 : 0 ≤ σ227 12 48 ∧ σ227 12 48 ≤ 45 := zf B a229 (t := 12) (f := 48) (by decide +kernel)
              refine And.intro (fun (q : 1 = 0) => absurd q (by decide)) (fun _ => ?_)
              refine And.intro (show 0 ≤ (σ227 12 48) ∧ (σ227 12 48) < 45 from by omega) ?_
              refine And.intro (show Int.negSucc 2147483647 ≤ 20 ∧ 20 ≤ 2147483647 from rgm (by omega)) ?_
              refine And.intro (show -2147483648 ≤ ((σ227 12 48) + 1) ∧ ((σ227 12 48) + 1) ≤ 2147483647 from by omega) ?_
              refine And.intro (show 0 ≤ ((σ227 12 48) + 1) ∧ ((σ227 12 48) + 1) ≤ 45 from by omega) ?_
              have f239 : (-2147483648) ≤ σ227 12 49 ∧ σ227 12 49 ≤ 2147483647 := zf B a229 (t := 12) (f := 49) (by decide +kernel)
              refine fun (z240 : Int) (h241 : -2147483648 ≤ z240 ∧ z240 ≤ 2147483647) (e242 : z240 = vadd (σ227 12 49) 1) => ?_
              refine And.intro (show Int.negSucc 2147483647 ≤ z240 ∧ z240 ≤ 2147483647 from rgm (by omega)) ?_
              refine And.intro (show 0 ≤ 1 ∧ 1 ≤ 1 from by omega) ?_
              refine And.intro (fun _ => ?_) (fun (q : 1 = 0) => absurd q (by decide))
              show zG E gJ1 md268 w gm_268 48 [(0, .inr (.inl 12)), (1, .inl 1)] (vup (vup (vup σ227 72 (σ227 12 48) 20) 12 48 ((σ227 12 48) + 1)) 12 49 z240) K
              have hF : zIv (vup (vup (vup σ227 72 (σ227 12 48) 20) 12 48 ((σ227 12 48) + 1)) 12 49 z240) (u + 1) := by
                show zIw (σ227 54) ((vup (vup (vup σ227 72 (σ227 12 48) 20) 12 48 ((σ227 12 48) + 1)) 12 49 z240) 72) (σ227 12 46) (σ227 12 48 + 1) (σ227 12 47) (σ227 12 50) (u + 1)
                rw [show σ227 12 47 = σ 12 47 + 1 from by omega, show σ227 12 50 = 0 from by omega, show (vup (vup (vup σ227 72 (σ227 12 48) 20) 12 48 ((σ227 12 48) + 1)) 12 49 z240) 72 = ful (σ227 72) (σ227 12 48) 20 from vup_f]
                exact zIw_push h237 (by omega) (by omega)
              exact ih (vup (vup (vup σ227 72 (σ227 12 48) 20) 12 48 ((σ227 12 48) + 1)) 12 49 z240) (u + 1) (show 4 * (20 - σ227 12 47) + 2 * (u + 1) + σ227 12 50 < (m : Int) from by omega) hF (vX_fr a228 rfl rfl) (show 0 ≤ σ227 12 50 ∧ σ227 12 50 ≤ 1 from by omega)
            · refine And.intro (show Int.negSucc 2147483647 ≤ 4 ∧ 4 ≤ 2147483647 from rgm (by omega)) ?_
              have f243 : 0 ≤ σ 12 12 ∧ σ 12 12 ≤ 940 := zf B hb (t := 12) (f := 12) (by decide +kernel)
              refine And.intro (show Int.negSucc 2147483647 ≤ (σ 12 12) ∧ (σ 12 12) ≤ 2147483647 from rgm (by omega)) ?_
              refine And.intro (show 0 ≤ 0 ∧ 0 ≤ 1 from by omega) ?_
              refine And.intro (show 0 ≤ 0 ∧ 0 ≤ 1 from by omega) ?_
              refine And.intro (fun (q : ¬ 0 = 0) => absurd q (by decide)) (fun _ => ?_)
              refine fun (z244 : Int) (h245 : -2147483648 ≤ z244 ∧ z244 ≤ 2147483647) (e246 : z244 = vsub (-1) (σ 12 12)) => ?_
              show K (some (.inl z244)) (vup (vup σ 12 15 4) 12 16 (σ 12 12))
              exact hK _ _ (by omega) (vX_fr hX rfl rfl)
    · have f247 : 0 ≤ σ 12 11 ∧ σ 12 11 ≤ 4 := zf B hb (t := 12) (f := 11) (by decide +kernel)
      refine And.intro (fun (c248 : ¬ (σ 12 11) = 0) => ?_) (fun (c249 : (σ 12 11) = 0) => ?_)
      · refine And.intro (fun (c250 : (σ 12 50) = 0) => ?_) (fun (c251 : ¬ (σ 12 50) = 0) => ?_)
        · refine fun (z252 : Int) (h253 : z252 = 0 ∨ z252 = 1) => ?_
          rcases h253 with rfl | rfl
          · refine fun (z254 : Int) (h255 : z254 = 0 ∨ z254 = 1) => ?_
            rcases h255 with rfl | rfl
            · refine fun (z256 : Int) (h257 : -1 ≤ z256 ∧ z256 ≤ 7) => ?_
              refine And.intro (fun (q : ¬ 0 = 0) => absurd q (by decide)) (fun _ => ?_)
              refine And.intro (fun (q : ¬ 0 = 0) => absurd q (by decide)) (fun _ => ?_)
              refine And.intro (fun (c258 : 0 ≤ z256) => ?_) (fun (c259 : z256 < 0) => ?_)
              · have f260 : (-2147483648) ≤ σ 12 47 ∧ σ 12 47 ≤ 2147483647 := zf B hb (t := 12) (f := 47) (by decide +kernel)
                refine And.intro (fun (c261 : (σ 12 47) = 20) => ?_) (fun (c262 : ¬ (σ 12 47) = 20) => ?_)
                · refine And.intro (show Int.negSucc 2147483647 ≤ 4 ∧ 4 ≤ 2147483647 from rgm (by omega)) ?_
                  have f263 : 0 ≤ σ 12 12 ∧ σ 12 12 ≤ 940 := zf B hb (t := 12) (f := 12) (by decide +kernel)
                  refine And.intro (show Int.negSucc 2147483647 ≤ (σ 12 12) ∧ (σ 12 12) ≤ 2147483647 from rgm (by omega)) ?_
                  refine And.intro (show 0 ≤ 0 ∧ 0 ≤ 1 from by omega) ?_
                  refine And.intro (show 0 ≤ 0 ∧ 0 ≤ 1 from by omega) ?_
                  refine And.intro (fun (q : ¬ 0 = 0) => absurd q (by decide)) (fun _ => ?_)
                  refine fun (z264 : Int) (h265 : -2147483648 ≤ z264 ∧ z264 ≤ 2147483647) (e266 : z264 = vsub (-1) (σ 12 12)) => ?_
                  show K (some (.inl z264)) (vup (vup σ 12 15 4) 12 16 (σ 12 12))
                  exact hK _ _ (by omega) (vX_fr hX rfl rfl)
                · have f267 : (-2147483648) ≤ σ 12 49 ∧ σ 12 49 ≤ 2147483647 := zf B hb (t := 12) (f := 49) (by decide +kernel)
                  refine And.intro (fun (c268 : (σ 12 49) ≤ 8) => ?_) (fun (c269 : 8 < (σ 12 49)) => ?_)
                  · refine And.intro (show -2147483648 ≤ ((σ 12 47) + 1) ∧ ((σ 12 47) + 1) ≤ 2147483647 from by omega) ?_
                    refine And.intro (show Int.negSucc 2147483647 ≤ ((σ 12 47) + 1) ∧ ((σ 12 47) + 1) ≤ 2147483647 from rgm (by omega)) ?_
                    refine And.intro (show vX (vup σ 12 47 ((σ 12 47) + 1)) from vX_fr hX rfl rfl) (And.intro (by decide +kernel) (fun (σ270 : vS) (a271 : vX σ270) (a272 : vBd (zso E) gST zuq σ270) (a273 : vFm zuq md271 (vup σ 12 47 ((σ 12 47) + 1)) σ270) => ?_))
                    have e274 : σ270 12 46 = σ 12 46 := vFm_fl a273 (t := 12) (f := 46) rfl (by decide +kernel)
                    have e275 : σ270 12 48 = σ 12 48 := vFm_fl a273 (t := 12) (f := 48) rfl (by decide +kernel)
                    have e276 : σ270 12 47 = (σ 12 47) + 1 := vFm_fl a273 (t := 12) (f := 47) rfl (by decide +kernel)
                    have e277 : σ270 12 50 = σ 12 50 := vFm_fl a273 (t := 12) (f := 50) rfl (by decide +kernel)
                    have e278 : σ270 72 = σ 72 := vFm_at a273 rfl (by decide +kernel)
                    have e279 : σ270 54 = σ 54 := vFm_at a273 rfl (by decide +kernel)
                    have h280 : zIw (σ270 54) (σ270 72) (σ270 12 46) (σ270 12 48) (σ 12 47) 0 u := by rw [e279, e278, e274, e275]; exact (hI0 (by omega))
                    refine And.intro (fun (q : ¬ 0 = 0) => absurd q (by decide)) (fun _ => ?_)
                    refine And.intro (fun _ => ?_) (fun (q : ¬ 0 = 0) => absurd q (by decide))
                    refine And.intro (show 0 ≤ 1 ∧ 1 ≤ 1 from by omega) ?_
                    refine And.intro (show 0 ≤ 1 ∧ 1 ≤ 1 from by omega) ?_
                    refine And.intro (fun (c281 : 2 ≤ z256) => ?_) (fun (c282 : z256 < 2) => ?_)
                    · refine And.intro (fun (c283 : 4 ≤ z256) => ?_) (fun (c284 : z256 < 4) => ?_)
                      · have f285 : 0 ≤ σ270 12 11 ∧ σ270 12 11 ≤ 4 := zf B a272 (t := 12) (f := 11) (by decide +kernel)
                        refine And.intro (fun (c286 : ¬ (σ270 12 11) = 3) => ?_) (fun (c287 : (σ270 12 11) = 3) => ?_)
                        · refine And.intro (show Int.negSucc 2147483647 ≤ 1 ∧ 1 ≤ 2147483647 from rgm (by omega)) ?_
                          have f288 : 0 ≤ σ270 12 12 ∧ σ270 12 12 ≤ 940 := zf B a272 (t := 12) (f := 12) (by decide +kernel)
                          refine And.intro (show Int.negSucc 2147483647 ≤ (σ270 12 12) ∧ (σ270 12 12) ≤ 2147483647 from rgm (by omega)) ?_
                          refine And.intro (show 0 ≤ 0 ∧ 0 ≤ 1 from by omega) ?_
                          refine And.intro (show 0 ≤ 0 ∧ 0 ≤ 1 from by omega) ?_
                          refine And.intro (fun (q : ¬ 0 = 0) => absurd q (by decide)) (fun _ => ?_)
                          refine fun (z289 : Int) (h290 : -2147483648 ≤ z289 ∧ z289 ≤ 2147483647) (e291 : z289 = vsub (-1) (σ270 12 12)) => ?_
                          show K (some (.inl z289)) (vup (vup (vup σ270 12 50 1) 12 15 1) 12 16 (σ270 12 12))
                          exact hK _ _ (by omega) (vX_fr a271 rfl rfl)
                        · have f292 : (-2147483648) ≤ σ270 12 14 ∧ σ270 12 14 ≤ 2147483647 := zf B a272 (t := 12) (f := 14) (by decide +kernel)
                          refine And.intro (fun (c293 : (σ270 12 14) < 60) => ?_) (fun (c294 : 60 ≤ (σ270 12 14)) => ?_)
                          · refine And.intro (show Int.negSucc 2147483647 ≤ 1 ∧ 1 ≤ 2147483647 from rgm (by omega)) ?_
                            have f295 : 0 ≤ σ270 12 12 ∧ σ270 12 12 ≤ 940 := zf B a272 (t := 12) (f := 12) (by decide +kernel)
                            refine And.intro (show Int.negSucc 2147483647 ≤ (σ270 12 12) ∧ (σ270 12 12) ≤ 2147483647 from rgm (by omega)) ?_
                            refine And.intro (show 0 ≤ 0 ∧ 0 ≤ 1 from by omega) ?_
                            refine And.intro (show 0 ≤ 0 ∧ 0 ≤ 1 from by omega) ?_
                            refine And.intro (fun (q : ¬ 0 = 0) => absurd q (by decide)) (fun _ => ?_)
                            refine fun (z296 : Int) (h297 : -2147483648 ≤ z296 ∧ z296 ≤ 2147483647) (e298 : z296 = vsub (-1) (σ270 12 12)) => ?_
                            show K (some (.inl z296)) (vup (vup (vup σ270 12 50 1) 12 15 1) 12 16 (σ270 12 12))
                            exact hK _ _ (by omega) (vX_fr a271 rfl rfl)
                          · refine And.intro (fun (c299 : (σ270 12 14) ≤ 62) => ?_) (fun (c300 : 62 < (σ270 12 14)) => ?_)
                            · refine And.intro (show vX (vup σ270 12 50 1) from vX_fr a271 rfl rfl) (And.intro (by decide +kernel) (fun (σ301 : vS) (a302 : vX σ301) (a303 : vBd (zso E) gST zuq σ301) (a304 : vFm zuq md271 (vup σ270 12 50 1) σ301) => ?_))
                              have e305 : σ301 12 46 = σ270 12 46 := vFm_fl a304 (t := 12) (f := 46) rfl (by decide +kernel)
                              have e306 : σ301 12 48 = σ270 12 48 := vFm_fl a304 (t := 12) (f := 48) rfl (by decide +kernel)
                              have e307 : σ301 12 47 = σ270 12 47 := vFm_fl a304 (t := 12) (f := 47) rfl (by decide +kernel)
                              have e308 : σ301 12 50 = 1 := vFm_fl a304 (t := 12) (f := 50) rfl (by decide +kernel)
                              have e309 : σ301 72 = σ270 72 := vFm_at a304 rfl (by decide +kernel)
                              have e310 : σ301 54 = σ270 54 := vFm_at a304 rfl (by decide +kernel)
                              have h311 : zIw (σ301 54) (σ301 72) (σ301 12 46) (σ301 12 48) (σ 12 47) 0 u := by rw [e310, e309, e305, e306]; exact h280
                              have f312 : 0 ≤ σ301 12 11 ∧ σ301 12 11 ≤ 4 := zf B a303 (t := 12) (f := 11) (by decide +kernel)
                              refine And.intro (fun (c313 : (σ301 12 11) = 2) => ?_) (fun (c314 : ¬ (σ301 12 11) = 2) => ?_)
                              · have f315 : (-2147483648) ≤ σ301 12 14 ∧ σ301 12 14 ≤ 2147483647 := zf B a303 (t := 12) (f := 14) (by decide +kernel)
                                have f316 : 0 ≤ σ301 12 46 ∧ σ301 12 46 ≤ 53 := zf B a303 (t := 12) (f := 46) (by decide +kernel)
                                refine And.intro (show -2147483648 ≤ (3 * (σ301 12 46)) ∧ (3 * (σ301 12 46)) ≤ 2147483647 from by omega) ?_
                                refine And.intro (show 0 ≤ (3 * (σ301 12 46)) ∧ (3 * (σ301 12 46)) < 160 from by omega) ?_
                                refine And.intro (show Int.negSucc 2147483647 ≤ z256 ∧ z256 ≤ 2147483647 from rgm (by omega)) ?_
                                refine And.intro (show -2147483648 ≤ (3 * (σ301 12 46)) ∧ (3 * (σ301 12 46)) ≤ 2147483647 from by omega) ?_
                                refine And.intro (show -2147483648 ≤ ((3 * (σ301 12 46)) + 1) ∧ ((3 * (σ301 12 46)) + 1) ≤ 2147483647 from by omega) ?_
                                refine And.intro (show 0 ≤ ((3 * (σ301 12 46)) + 1) ∧ ((3 * (σ301 12 46)) + 1) < 160 from by omega) ?_
                                refine And.intro (show Int.negSucc 2147483647 ≤ (σ270 12 14) ∧ (σ270 12 14) ≤ 2147483647 from rgm (by omega)) ?_
                                refine And.intro (show -2147483648 ≤ (3 * (σ301 12 46)) ∧ (3 * (σ301 12 46)) ≤ 2147483647 from by omega) ?_
                                refine And.intro (show -2147483648 ≤ ((3 * (σ301 12 46)) + 2) ∧ ((3 * (σ301 12 46)) + 2) ≤ 2147483647 from by omega) ?_
                                refine And.intro (show 0 ≤ ((3 * (σ301 12 46)) + 2) ∧ ((3 * (σ301 12 46)) + 2) < 160 from by omega) ?_
                                refine And.intro (show Int.negSucc 2147483647 ≤ (σ301 12 14) ∧ (σ301 12 14) ≤ 2147483647 from rgm (by omega)) ?_
                                refine And.intro (show -2147483648 ≤ ((σ301 12 46) + 1) ∧ ((σ301 12 46) + 1) ≤ 2147483647 from by omega) ?_
                                refine And.intro (show 0 ≤ ((σ301 12 46) + 1) ∧ ((σ301 12 46) + 1) ≤ 53 from by omega) ?_
                                refine And.intro (show vX (vup (vup (vup (vup σ301 54 (3 * (σ301 12 46)) z256) 54 ((3 * (σ301 12 46)) + 1) (σ270 12 14)) 54 ((3 * (σ301 12 46)) + 2) (σ301 12 14)) 12 46 ((σ301 12 46) + 1)) from vX_fr a302 rfl rfl) (And.intro (by decide +kernel) (fun (σ317 : vS) (a318 : vX σ317) (a319 : vBd (zso E) gST zuq σ317) (a320 : vFm zuq md271 (vup (vup (vup (vup σ301 54 (3 * (σ301 12 46)) z256) 54 ((3 * (σ301 12 46)) + 1) (σ270 12 14)) 54 ((3 * (σ301 12 46)) + 2) (σ301 12 14)) 12 46 ((σ301 12 46) + 1)) σ317) => ?_))
                                have e321 : σ317 12 46 = (σ301 12 46) + 1 := vFm_fl a320 (t := 12) (f := 46) rfl (by decide +kernel)
                                have e322 : σ317 12 48 = σ301 12 48 := vFm_fl a320 (t := 12) (f := 48) rfl (by decide +kernel)
                                have e323 : σ317 12 47 = σ301 12 47 := vFm_fl a320 (t := 12) (f := 47) rfl (by decide +kernel)
                                have e324 : σ317 12 50 = σ301 12 50 := vFm_fl a320 (t := 12) (f := 50) rfl (by decide +kernel)
                                have e325 : σ317 72 = σ301 72 := vFm_at a320 rfl (by decide +kernel)
                                have e326 : σ317 54 = (vup (vup (vup (vup σ301 54 (3 * (σ301 12 46)) z256) 54 ((3 * (σ301 12 46)) + 1) (σ270 12 14)) 54 ((3 * (σ301 12 46)) + 2) (σ301 12 14)) 12 46 ((σ301 12 46) + 1)) 54 := vFm_at a320 rfl (by decide +kernel)
                                have h327 : zIw (σ317 54) (σ317 72) (σ317 12 46) (σ317 12 48) (σ 12 47 + 1) 1 u := by
                                  rw [e326, e325, e321, e322, show (vup (vup (vup (vup σ301 54 (3 * (σ301 12 46)) z256) 54 ((3 * (σ301 12 46)) + 1) (σ270 12 14)) 54 ((3 * (σ301 12 46)) + 2) (σ301 12 14)) 12 46 ((σ301 12 46) + 1)) 54 = ful (ful (ful (σ301 54) (3 * (σ301 12 46)) z256) ((3 * (σ301 12 46)) + 1) (σ270 12 14)) ((3 * (σ301 12 46)) + 2) (σ301 12 14) from vup3]
                                  exact zIw_leaf h311 ful3_lo ful3_at (by omega) (by omega)
                                refine And.intro (show 0 ≤ 1 ∧ 1 ≤ 1 from by omega) ?_
                                refine And.intro (fun _ => ?_) (fun (q : 1 = 0) => absurd q (by decide))
                                show zG E gJ1 md268 w gm_268 48 [(0, .inr (.inl 12)), (1, .inl 1)] σ317 K
                                have hF : zIv σ317 u := by
                                  show zIw (σ317 54) (σ317 72) (σ317 12 46) (σ317 12 48) (σ317 12 47) (σ317 12 50) u
                                  rw [show σ317 12 47 = σ 12 47 + 1 from by omega, show σ317 12 50 = 1 from by omega]
                                  exact h327
                                exact ih σ317 u (by omega) hF a318 (by omega)
                              · refine And.intro (show Int.negSucc 2147483647 ≤ 1 ∧ 1 ≤ 2147483647 from rgm (by omega)) ?_
                                have f328 : 0 ≤ σ301 12 12 ∧ σ301 12 12 ≤ 940 := zf B a303 (t := 12) (f := 12) (by decide +kernel)
                                refine And.intro (show Int.negSucc 2147483647 ≤ (σ301 12 12) ∧ (σ301 12 12) ≤ 2147483647 from rgm (by omega)) ?_
                                refine And.intro (show 0 ≤ 0 ∧ 0 ≤ 1 from by omega) ?_
                                refine And.intro (show 0 ≤ 0 ∧ 0 ≤ 1 from by omega) ?_
                                refine And.intro (fun (q : ¬ 0 = 0) => absurd q (by decide)) (fun _ => ?_)
                                refine fun (z329 : Int) (h330 : -2147483648 ≤ z329 ∧ z329 ≤ 2147483647) (e331 : z329 = vsub (-1) (σ301 12 12)) => ?_
                                show K (some (.inl z329)) (vup (vup σ301 12 15 1) 12 16 (σ301 12 12))
                                exact hK _ _ (by omega) (vX_fr a302 rfl rfl)
                            · refine And.intro (show Int.negSucc 2147483647 ≤ 1 ∧ 1 ≤ 2147483647 from rgm (by omega)) ?_
                              have f332 : 0 ≤ σ270 12 12 ∧ σ270 12 12 ≤ 940 := zf B a272 (t := 12) (f := 12) (by decide +kernel)
                              refine And.intro (show Int.negSucc 2147483647 ≤ (σ270 12 12) ∧ (σ270 12 12) ≤ 2147483647 from rgm (by omega)) ?_
                              refine And.intro (show 0 ≤ 0 ∧ 0 ≤ 1 from by omega) ?_
                              refine And.intro (show 0 ≤ 0 ∧ 0 ≤ 1 from by omega) ?_
                              refine And.intro (fun (q : ¬ 0 = 0) => absurd q (by decide)) (fun _ => ?_)
                              refine fun (z333 : Int) (h334 : -2147483648 ≤ z333 ∧ z333 ≤ 2147483647) (e335 : z333 = vsub (-1) (σ270 12 12)) => ?_
                              show K (some (.inl z333)) (vup (vup (vup σ270 12 50 1) 12 15 1) 12 16 (σ270 12 12))
                              exact hK _ _ (by omega) (vX_fr a271 rfl rfl)
                      · refine And.intro ⟨rfl, trivial⟩ (And.intro (show vX (vup σ270 12 50 1) from vX_fr a271 rfl rfl) (fun (z336 : Int) (a337 : 0 ≤ z336 ∧ z336 ≤ 1) => ?_))
                        refine And.intro (fun (c338 : ¬ z336 = 0) => ?_) (fun (c339 : z336 = 0) => ?_)
                        · refine And.intro (fun (c340 : ¬ z256 = 2) => ?_) (fun (c341 : z256 = 2) => ?_)
                          · refine And.intro (show 0 ≤ 0 ∧ 0 < 402 from by omega) ?_
                            have f342 : 0 ≤ σ270 52 0 ∧ σ270 52 0 ≤ 6 := zb B a272 (t := 52) (a := 0) (n := 2) (i := 0) (by decide +kernel) (by omega) (by omega)
                            refine And.intro (show (0 ≤ 0 ∧ 0 ≤ 6) ∧ (0 ≤ (σ270 52 0) ∧ (σ270 52 0) ≤ 12) from by omega) (fun (z343 : Int) (h344 : -1 ≤ z343 ∧ z343 ≤ 11) => ?_)
                            refine And.intro (fun (c345 : 0 ≤ z343) => ?_) (fun (c346 : z343 < 0) => ?_)
                            · have f347 : 0 ≤ σ270 12 46 ∧ σ270 12 46 ≤ 53 := zf B a272 (t := 12) (f := 46) (by decide +kernel)
                              refine And.intro (show -2147483648 ≤ (3 * (σ270 12 46)) ∧ (3 * (σ270 12 46)) ≤ 2147483647 from by omega) ?_
                              refine And.intro (show 0 ≤ (3 * (σ270 12 46)) ∧ (3 * (σ270 12 46)) < 160 from by omega) ?_
                              refine And.intro (show Int.negSucc 2147483647 ≤ z256 ∧ z256 ≤ 2147483647 from rgm (by omega)) ?_
                              refine And.intro (show -2147483648 ≤ (3 * (σ270 12 46)) ∧ (3 * (σ270 12 46)) ≤ 2147483647 from by omega) ?_
                              refine And.intro (show -2147483648 ≤ ((3 * (σ270 12 46)) + 1) ∧ ((3 * (σ270 12 46)) + 1) ≤ 2147483647 from by omega) ?_
                              refine And.intro (show 0 ≤ ((3 * (σ270 12 46)) + 1) ∧ ((3 * (σ270 12 46)) + 1) < 160 from by omega) ?_
                              refine And.intro (show Int.negSucc 2147483647 ≤ 0 ∧ 0 ≤ 2147483647 from rgm (by omega)) ?_
                              refine And.intro (show -2147483648 ≤ (3 * (σ270 12 46)) ∧ (3 * (σ270 12 46)) ≤ 2147483647 from by omega) ?_
                              refine And.intro (show -2147483648 ≤ ((3 * (σ270 12 46)) + 2) ∧ ((3 * (σ270 12 46)) + 2) ≤ 2147483647 from by omega) ?_
                              refine And.intro (show 0 ≤ ((3 * (σ270 12 46)) + 2) ∧ ((3 * (σ270 12 46)) + 2) < 160 from by omega) ?_
                              refine And.intro (show Int.negSucc 2147483647 ≤ z343 ∧ z343 ≤ 2147483647 from rgm (by omega)) ?_
                              refine And.intro (show -2147483648 ≤ ((σ270 12 46) + 1) ∧ ((σ270 12 46) + 1) ≤ 2147483647 from by omega) ?_
                              refine And.intro (show 0 ≤ ((σ270 12 46) + 1) ∧ ((σ270 12 46) + 1) ≤ 53 from by omega) ?_
                              refine And.intro (show vX (vup (vup (vup (vup (vup σ270 12 50 1) 54 (3 * (σ270 12 46)) z256) 54 ((3 * (σ270 12 46)) + 1) 0) 54 ((3 * (σ270 12 46)) + 2) z343) 12 46 ((σ270 12 46) + 1)) from vX_fr a271 rfl rfl) (And.intro (by decide +kernel) (fun (σ348 : vS) (a349 : vX σ348) (a350 : vBd (zso E) gST zuq σ348) (a351 : vFm zuq md271 (vup (vup (vup (vup (vup σ270 12 50 1) 54 (3 * (σ270 12 46)) z256) 54 ((3 * (σ270 12 46)) + 1) 0) 54 ((3 * (σ270 12 46)) + 2) z343) 12 46 ((σ270 12 46) + 1)) σ348) => ?_))
                              have e352 : σ348 12 46 = (σ270 12 46) + 1 := vFm_fl a351 (t := 12) (f := 46) rfl (by decide +kernel)
                              have e353 : σ348 12 48 = σ270 12 48 := vFm_fl a351 (t := 12) (f := 48) rfl (by decide +kernel)
                              have e354 : σ348 12 47 = σ270 12 47 := vFm_fl a351 (t := 12) (f := 47) rfl (by decide +kernel)
                              have e355 : σ348 12 50 = 1 := vFm_fl a351 (t := 12) (f := 50) rfl (by decide +kernel)
                              have e356 : σ348 72 = σ270 72 := vFm_at a351 rfl (by decide +kernel)
                              have e357 : σ348 54 = (vup (vup (vup (vup (vup σ270 12 50 1) 54 (3 * (σ270 12 46)) z256) 54 ((3 * (σ270 12 46)) + 1) 0) 54 ((3 * (σ270 12 46)) + 2) z343) 12 46 ((σ270 12 46) + 1)) 54 := vFm_at a351 rfl (by decide +kernel)
                              have h358 : zIw (σ348 54) (σ348 72) (σ348 12 46) (σ348 12 48) (σ 12 47 + 1) 1 u := by
                                rw [e357, e356, e352, e353, show (vup (vup (vup (vup (vup σ270 12 50 1) 54 (3 * (σ270 12 46)) z256) 54 ((3 * (σ270 12 46)) + 1) 0) 54 ((3 * (σ270 12 46)) + 2) z343) 12 46 ((σ270 12 46) + 1)) 54 = ful (ful (ful (σ270 54) (3 * (σ270 12 46)) z256) ((3 * (σ270 12 46)) + 1) 0) ((3 * (σ270 12 46)) + 2) z343 from vup3]
                                exact zIw_leaf h280 ful3_lo ful3_at (by omega) (by omega)
                              refine And.intro (show 0 ≤ 1 ∧ 1 ≤ 1 from by omega) ?_
                              refine And.intro (fun _ => ?_) (fun (q : 1 = 0) => absurd q (by decide))
                              show zG E gJ1 md268 w gm_268 48 [(0, .inr (.inl 12)), (1, .inl 1)] σ348 K
                              have hF : zIv σ348 u := by
                                show zIw (σ348 54) (σ348 72) (σ348 12 46) (σ348 12 48) (σ348 12 47) (σ348 12 50) u
                                rw [show σ348 12 47 = σ 12 47 + 1 from by omega, show σ348 12 50 = 1 from by omega]
                                exact h358
                              exact ih σ348 u (by omega) hF a349 (by omega)
                            · refine And.intro (show Int.negSucc 2147483647 ≤ 3 ∧ 3 ≤ 2147483647 from rgm (by omega)) ?_
                              have f359 : 0 ≤ σ270 12 12 ∧ σ270 12 12 ≤ 940 := zf B a272 (t := 12) (f := 12) (by decide +kernel)
                              refine And.intro (show Int.negSucc 2147483647 ≤ (σ270 12 12) ∧ (σ270 12 12) ≤ 2147483647 from rgm (by omega)) ?_
                              refine And.intro (show 0 ≤ 0 ∧ 0 ≤ 1 from by omega) ?_
                              refine And.intro (show 0 ≤ 0 ∧ 0 ≤ 1 from by omega) ?_
                              refine And.intro (fun (q : ¬ 0 = 0) => absurd q (by decide)) (fun _ => ?_)
                              refine fun (z360 : Int) (h361 : -2147483648 ≤ z360 ∧ z360 ≤ 2147483647) (e362 : z360 = vsub (-1) (σ270 12 12)) => ?_
                              show K (some (.inl z360)) (vup (vup (vup σ270 12 50 1) 12 15 3) 12 16 (σ270 12 12))
                              exact hK _ _ (by omega) (vX_fr a271 rfl rfl)
                          · refine And.intro (show 0 ≤ 1 ∧ 1 < 402 from by omega) ?_
                            have f363 : 0 ≤ σ270 52 1 ∧ σ270 52 1 ≤ 6 := zb B a272 (t := 52) (a := 0) (n := 2) (i := 1) (by decide +kernel) (by omega) (by omega)
                            refine And.intro (show (0 ≤ 6 ∧ 6 ≤ 6) ∧ (0 ≤ (σ270 52 1) ∧ (σ270 52 1) ≤ 12) from by omega) (fun (z364 : Int) (h365 : -1 ≤ z364 ∧ z364 ≤ 11) => ?_)
                            refine And.intro (fun (c366 : 0 ≤ z364) => ?_) (fun (c367 : z364 < 0) => ?_)
                            · have f368 : 0 ≤ σ270 12 46 ∧ σ270 12 46 ≤ 53 := zf B a272 (t := 12) (f := 46) (by decide +kernel)
                              refine And.intro (show -2147483648 ≤ (3 * (σ270 12 46)) ∧ (3 * (σ270 12 46)) ≤ 2147483647 from by omega) ?_
                              refine And.intro (show 0 ≤ (3 * (σ270 12 46)) ∧ (3 * (σ270 12 46)) < 160 from by omega) ?_
                              refine And.intro (show Int.negSucc 2147483647 ≤ z256 ∧ z256 ≤ 2147483647 from rgm (by omega)) ?_
                              refine And.intro (show -2147483648 ≤ (3 * (σ270 12 46)) ∧ (3 * (σ270 12 46)) ≤ 2147483647 from by omega) ?_
                              refine And.intro (show -2147483648 ≤ ((3 * (σ270 12 46)) + 1) ∧ ((3 * (σ270 12 46)) + 1) ≤ 2147483647 from by omega) ?_
                              refine And.intro (show 0 ≤ ((3 * (σ270 12 46)) + 1) ∧ ((3 * (σ270 12 46)) + 1) < 160 from by omega) ?_
                              refine And.intro (show Int.negSucc 2147483647 ≤ 0 ∧ 0 ≤ 2147483647 from rgm (by omega)) ?_
                              refine And.intro (show -2147483648 ≤ (3 * (σ270 12 46)) ∧ (3 * (σ270 12 46)) ≤ 2147483647 from by omega) ?_
                              refine And.intro (show -2147483648 ≤ ((3 * (σ270 12 46)) + 2) ∧ ((3 * (σ270 12 46)) + 2) ≤ 2147483647 from by omega) ?_
                              refine And.intro (show 0 ≤ ((3 * (σ270 12 46)) + 2) ∧ ((3 * (σ270 12 46)) + 2) < 160 from by omega) ?_
                              refine And.intro (show Int.negSucc 2147483647 ≤ z364 ∧ z364 ≤ 2147483647 from rgm (by omega)) ?_
                              refine And.intro (show -2147483648 ≤ ((σ270 12 46) + 1) ∧ ((σ270 12 46) + 1) ≤ 2147483647 from by omega) ?_
                              refine And.intro (show 0 ≤ ((σ270 12 46) + 1) ∧ ((σ270 12 46) + 1) ≤ 53 from by omega) ?_
                              refine And.intro (show vX (vup (vup (vup (vup (vup σ270 12 50 1) 54 (3 * (σ270 12 46)) z256) 54 ((3 * (σ270 12 46)) + 1) 0) 54 ((3 * (σ270 12 46)) + 2) z364) 12 46 ((σ270 12 46) + 1)) from vX_fr a271 rfl rfl) (And.intro (by decide +kernel) (fun (σ369 : vS) (a370 : vX σ369) (a371 : vBd (zso E) gST zuq σ369) (a372 : vFm zuq md271 (vup (vup (vup (vup (vup σ270 12 50 1) 54 (3 * (σ270 12 46)) z256) 54 ((3 * (σ270 12 46)) + 1) 0) 54 ((3 * (σ270 12 46)) + 2) z364) 12 46 ((σ270 12 46) + 1)) σ369) => ?_))
                              have e373 : σ369 12 46 = (σ270 12 46) + 1 := vFm_fl a372 (t := 12) (f := 46) rfl (by decide +kernel)
                              have e374 : σ369 12 48 = σ270 12 48 := vFm_fl a372 (t := 12) (f := 48) rfl (by decide +kernel)
                              have e375 : σ369 12 47 = σ270 12 47 := vFm_fl a372 (t := 12) (f := 47) rfl (by decide +kernel)
                              have e376 : σ369 12 50 = 1 := vFm_fl a372 (t := 12) (f := 50) rfl (by decide +kernel)
                              have e377 : σ369 72 = σ270 72 := vFm_at a372 rfl (by decide +kernel)
                              have e378 : σ369 54 = (vup (vup (vup (vup (vup σ270 12 50 1) 54 (3 * (σ270 12 46)) z256) 54 ((3 * (σ270 12 46)) + 1) 0) 54 ((3 * (σ270 12 46)) + 2) z364) 12 46 ((σ270 12 46) + 1)) 54 := vFm_at a372 rfl (by decide +kernel)
                              have h379 : zIw (σ369 54) (σ369 72) (σ369 12 46) (σ369 12 48) (σ 12 47 + 1) 1 u := by
                                rw [e378, e377, e373, e374, show (vup (vup (vup (vup (vup σ270 12 50 1) 54 (3 * (σ270 12 46)) z256) 54 ((3 * (σ270 12 46)) + 1) 0) 54 ((3 * (σ270 12 46)) + 2) z364) 12 46 ((σ270 12 46) + 1)) 54 = ful (ful (ful (σ270 54) (3 * (σ270 12 46)) z256) ((3 * (σ270 12 46)) + 1) 0) ((3 * (σ270 12 46)) + 2) z364 from vup3]
                                exact zIw_leaf h280 ful3_lo ful3_at (by omega) (by omega)
                              refine And.intro (show 0 ≤ 1 ∧ 1 ≤ 1 from by omega) ?_
                              refine And.intro (fun _ => ?_) (fun (q : 1 = 0) => absurd q (by decide))
                              show zG E gJ1 md268 w gm_268 48 [(0, .inr (.inl 12)), (1, .inl 1)] σ369 K
                              have hF : zIv σ369 u := by
                                show zIw (σ369 54) (σ369 72) (σ369 12 46) (σ369 12 48) (σ369 12 47) (σ369 12 50) u
                                rw [show σ369 12 47 = σ 12 47 + 1 from by omega, show σ369 12 50 = 1 from by omega]
                                exact h379
                              exact ih σ369 u (by omega) hF a370 (by omega)
                            · refine And.intro (show Int.negSucc 2147483647 ≤ 3 ∧ 3 ≤ 2147483647 from rgm (by omega)) ?_
                              have f380 : 0 ≤ σ270 12 12 ∧ σ270 12 12 ≤ 940 := zf B a272 (t := 12) (f := 12) (by decide +kernel)
                              refine And.intro (show Int.negSucc 2147483647 ≤ (σ270 12 12) ∧ (σ270 12 12) ≤ 2147483647 from rgm (by omega)) ?_
                              refine And.intro (show 0 ≤ 0 ∧ 0 ≤ 1 from by omega) ?_
                              refine And.intro (show 0 ≤ 0 ∧ 0 ≤ 1 from by omega) ?_
                              refine And.intro (fun (q : ¬ 0 = 0) => absurd q (by decide)) (fun _ => ?_)
                              refine fun (z381 : Int) (h382 : -2147483648 ≤ z381 ∧ z381 ≤ 2147483647) (e383 : z381 = vsub (-1) (σ270 12 12)) => ?_
                              show K (some (.inl z381)) (vup (vup (vup σ270 12 50 1) 12 15 3) 12 16 (σ270 12 12))
                              exact hK _ _ (by omega) (vX_fr a271 rfl rfl)
                        · refine And.intro (show Int.negSucc 2147483647 ≤ 1 ∧ 1 ≤ 2147483647 from rgm (by omega)) ?_
                          have f384 : 0 ≤ σ270 12 12 ∧ σ270 12 12 ≤ 940 := zf B a272 (t := 12) (f := 12) (by decide +kernel)
                          refine And.intro (show Int.negSucc 2147483647 ≤ (σ270 12 12) ∧ (σ270 12 12) ≤ 2147483647 from rgm (by omega)) ?_
                          refine And.intro (show 0 ≤ 0 ∧ 0 ≤ 1 from by omega) ?_
                          refine And.intro (show 0 ≤ 0 ∧ 0 ≤ 1 from by omega) ?_
                          refine And.intro (fun (q : ¬ 0 = 0) => absurd q (by decide)) (fun _ => ?_)
                          refine fun (z385 : Int) (h386 : -2147483648 ≤ z385 ∧ z385 ≤ 2147483647) (e387 : z385 = vsub (-1) (σ270 12 12)) => ?_
                          show K (some (.inl z385)) (vup (vup (vup σ270 12 50 1) 12 15 1) 12 16 (σ270 12 12))
                          exact hK _ _ (by omega) (vX_fr a271 rfl rfl)
                    · have f388 : 0 ≤ σ270 12 46 ∧ σ270 12 46 ≤ 53 := zf B a272 (t := 12) (f := 46) (by decide +kernel)
                      refine And.intro (show -2147483648 ≤ (3 * (σ270 12 46)) ∧ (3 * (σ270 12 46)) ≤ 2147483647 from by omega) ?_
                      refine And.intro (show 0 ≤ (3 * (σ270 12 46)) ∧ (3 * (σ270 12 46)) < 160 from by omega) ?_
                      refine And.intro (show Int.negSucc 2147483647 ≤ z256 ∧ z256 ≤ 2147483647 from rgm (by omega)) ?_
                      refine And.intro (show -2147483648 ≤ (3 * (σ270 12 46)) ∧ (3 * (σ270 12 46)) ≤ 2147483647 from by omega) ?_
                      refine And.intro (show -2147483648 ≤ ((3 * (σ270 12 46)) + 1) ∧ ((3 * (σ270 12 46)) + 1) ≤ 2147483647 from by omega) ?_
                      refine And.intro (show 0 ≤ ((3 * (σ270 12 46)) + 1) ∧ ((3 * (σ270 12 46)) + 1) < 160 from by omega) ?_
                      refine And.intro (show Int.negSucc 2147483647 ≤ 0 ∧ 0 ≤ 2147483647 from rgm (by omega)) ?_
                      refine And.intro (show -2147483648 ≤ (3 * (σ270 12 46)) ∧ (3 * (σ270 12 46)) ≤ 2147483647 from by omega) ?_
                      refine And.intro (show -2147483648 ≤ ((3 * (σ270 12 46)) + 2) ∧ ((3 * (σ270 12 46)) + 2) ≤ 2147483647 from by omega) ?_
                      refine And.intro (show 0 ≤ ((3 * (σ270 12 46)) + 2) ∧ ((3 * (σ270 12 46)) + 2) < 160 from by omega) ?_
                      refine And.intro (show Int.negSucc 2147483647 ≤ 0 ∧ 0 ≤ 2147483647 from rgm (by omega)) ?_
                      refine And.intro (show -2147483648 ≤ ((σ270 12 46) + 1) ∧ ((σ270 12 46) + 1) ≤ 2147483647 from by omega) ?_
                      refine And.intro (show 0 ≤ ((σ270 12 46) + 1) ∧ ((σ270 12 46) + 1) ≤ 53 from by omega) ?_
                      refine And.intro (show 0 ≤ 1 ∧ 1 ≤ 1 from by omega) ?_
                      refine And.intro (fun _ => ?_) (fun (q : 1 = 0) => absurd q (by decide))
                      show zG E gJ1 md268 w gm_268 48 [(0, .inr (.inl 12)), (1, .inl 1)] (vup (vup (vup (vup (vup σ270 12 50 1) 54 (3 * (σ270 12 46)) z256) 54 ((3 * (σ270 12 46)) + 1) 0) 54 ((3 * (σ270 12 46)) + 2) 0) 12 46 ((σ270 12 46) + 1)) K
                      have hF : zIv (vup (vup (vup (vup (vup σ270 12 50 1) 54 (3 * (σ270 12 46)) z256) 54 ((3 * (σ270 12 46)) + 1) 0) 54 ((3 * (σ270 12 46)) + 2) 0) 12 46 ((σ270 12 46) + 1)) u := by
                        show zIw ((vup (vup (vup (vup (vup σ270 12 50 1) 54 (3 * (σ270 12 46)) z256) 54 ((3 * (σ270 12 46)) + 1) 0) 54 ((3 * (σ270 12 46)) + 2) 0) 12 46 ((σ270 12 46) + 1)) 54) (σ270 72) (σ270 12 46 + 1) (σ270 12 48) (σ270 12 47) 1 u
                        rw [show σ270 12 47 = σ 12 47 + 1 from by omega, show (vup (vup (vup (vup (vup σ270 12 50 1) 54 (3 * (σ270 12 46)) z256) 54 ((3 * (σ270 12 46)) + 1) 0) 54 ((3 * (σ270 12 46)) + 2) 0) 12 46 ((σ270 12 46) + 1)) 54 = ful (ful (ful (σ270 54) (3 * (σ270 12 46)) z256) ((3 * (σ270 12 46)) + 1) 0) ((3 * (σ270 12 46)) + 2) 0 from vup3]
                        exact zIw_leaf h280 ful3_lo ful3_at (by omega) (by omega)
                      exact ih (vup (vup (vup (vup (vup σ270 12 50 1) 54 (3 * (σ270 12 46)) z256) 54 ((3 * (σ270 12 46)) + 1) 0) 54 ((3 * (σ270 12 46)) + 2) 0) 12 46 ((σ270 12 46) + 1)) u (show 4 * (20 - σ270 12 47) + 2 * u + 1 < (m : Int) from by omega) hF (vX_fr a271 rfl rfl) (show (0 : Int) ≤ 1 ∧ (1 : Int) ≤ 1 from by omega)
                  · refine And.intro (show Int.negSucc 2147483647 ≤ 4 ∧ 4 ≤ 2147483647 from rgm (by omega)) ?_
                    have f389 : 0 ≤ σ 12 12 ∧ σ 12 12 ≤ 940 := zf B hb (t := 12) (f := 12) (by decide +kernel)
                    refine And.intro (show Int.negSucc 2147483647 ≤ (σ 12 12) ∧ (σ 12 12) ≤ 2147483647 from rgm (by omega)) ?_
                    refine And.intro (show 0 ≤ 0 ∧ 0 ≤ 1 from by omega) ?_
                    refine And.intro (show 0 ≤ 0 ∧ 0 ≤ 1 from by omega) ?_
                    refine And.intro (fun (q : ¬ 0 = 0) => absurd q (by decide)) (fun _ => ?_)
                    refine fun (z390 : Int) (h391 : -2147483648 ≤ z390 ∧ z390 ≤ 2147483647) (e392 : z390 = vsub (-1) (σ 12 12)) => ?_
                    show K (some (.inl z390)) (vup (vup σ 12 15 4) 12 16 (σ 12 12))
                    exact hK _ _ (by omega) (vX_fr hX rfl rfl)
              · refine And.intro (show Int.negSucc 2147483647 ≤ 1 ∧ 1 ≤ 2147483647 from rgm (by omega)) ?_
                have f393 : 0 ≤ σ 12 12 ∧ σ 12 12 ≤ 940 := zf B hb (t := 12) (f := 12) (by decide +kernel)
                refine And.intro (show Int.negSucc 2147483647 ≤ (σ 12 12) ∧ (σ 12 12) ≤ 2147483647 from rgm (by omega)) ?_
                refine And.intro (show 0 ≤ 0 ∧ 0 ≤ 1 from by omega) ?_
                refine And.intro (show 0 ≤ 0 ∧ 0 ≤ 1 from by omega) ?_
                refine And.intro (fun (q : ¬ 0 = 0) => absurd q (by decide)) (fun _ => ?_)
                refine fun (z394 : Int) (h395 : -2147483648 ≤ z394 ∧ z394 ≤ 2147483647) (e396 : z394 = vsub (-1) (σ 12 12)) => ?_
                show K (some (.inl z394)) (vup (vup σ 12 15 1) 12 16 (σ 12 12))
                exact hK _ _ (by omega) (vX_fr hX rfl rfl)
            · refine fun (z397 : Int) (h398 : -1 ≤ z397 ∧ z397 ≤ 7) => ?_
              refine And.intro (fun (q : ¬ 0 = 0) => absurd q (by decide)) (fun _ => ?_)
              refine And.intro (fun _ => ?_) (fun (q : 1 = 0) => absurd q (by decide))
              have f399 : (-2147483648) ≤ σ 12 47 ∧ σ 12 47 ≤ 2147483647 := zf B hb (t := 12) (f := 47) (by decide +kernel)
              refine And.intro (fun (c400 : (σ 12 47) = 20) => ?_) (fun (c401 : ¬ (σ 12 47) = 20) => ?_)
              · refine And.intro (show Int.negSucc 2147483647 ≤ 4 ∧ 4 ≤ 2147483647 from rgm (by omega)) ?_
                have f402 : 0 ≤ σ 12 12 ∧ σ 12 12 ≤ 940 := zf B hb (t := 12) (f := 12) (by decide +kernel)
                refine And.intro (show Int.negSucc 2147483647 ≤ (σ 12 12) ∧ (σ 12 12) ≤ 2147483647 from rgm (by omega)) ?_
                refine And.intro (show 0 ≤ 0 ∧ 0 ≤ 1 from by omega) ?_
                refine And.intro (show 0 ≤ 0 ∧ 0 ≤ 1 from by omega) ?_
                refine And.intro (fun (q : ¬ 0 = 0) => absurd q (by decide)) (fun _ => ?_)
                refine fun (z403 : Int) (h404 : -2147483648 ≤ z403 ∧ z403 ≤ 2147483647) (e405 : z403 = vsub (-1) (σ 12 12)) => ?_
                show K (some (.inl z403)) (vup (vup σ 12 15 4) 12 16 (σ 12 12))
                exact hK _ _ (by omega) (vX_fr hX rfl rfl)
              · have f406 : (-2147483648) ≤ σ 12 49 ∧ σ 12 49 ≤ 2147483647 := zf B hb (t := 12) (f := 49) (by decide +kernel)
                refine And.intro (fun (c407 : (σ 12 49) ≤ 8) => ?_) (fun (c408 : 8 < (σ 12 49)) => ?_)
                · refine And.intro (show -2147483648 ≤ ((σ 12 47) + 1) ∧ ((σ 12 47) + 1) ≤ 2147483647 from by omega) ?_
                  refine And.intro (show Int.negSucc 2147483647 ≤ ((σ 12 47) + 1) ∧ ((σ 12 47) + 1) ≤ 2147483647 from rgm (by omega)) ?_
                  refine And.intro (show vX (vup σ 12 47 ((σ 12 47) + 1)) from vX_fr hX rfl rfl) (And.intro (by decide +kernel) (fun (σ409 : vS) (a410 : vX σ409) (a411 : vBd (zso E) gST zuq σ409) (a412 : vFm zuq md271 (vup σ 12 47 ((σ 12 47) + 1)) σ409) => ?_))
                  have e413 : σ409 12 46 = σ 12 46 := vFm_fl a412 (t := 12) (f := 46) rfl (by decide +kernel)
                  have e414 : σ409 12 48 = σ 12 48 := vFm_fl a412 (t := 12) (f := 48) rfl (by decide +kernel)
                  have e415 : σ409 12 47 = (σ 12 47) + 1 := vFm_fl a412 (t := 12) (f := 47) rfl (by decide +kernel)
                  have e416 : σ409 12 50 = σ 12 50 := vFm_fl a412 (t := 12) (f := 50) rfl (by decide +kernel)
                  have e417 : σ409 72 = σ 72 := vFm_at a412 rfl (by decide +kernel)
                  have e418 : σ409 54 = σ 54 := vFm_at a412 rfl (by decide +kernel)
                  have h419 : zIw (σ409 54) (σ409 72) (σ409 12 46) (σ409 12 48) (σ 12 47) 0 u := by rw [e418, e417, e413, e414]; exact (hI0 (by omega))
                  refine And.intro (fun (q : ¬ 0 = 0) => absurd q (by decide)) (fun _ => ?_)
                  refine And.intro (fun (q : 1 = 0) => absurd q (by decide)) (fun _ => ?_)
                  have f420 : 0 ≤ σ409 12 48 ∧ σ409 12 48 ≤ 45 := zf B a411 (t := 12) (f := 48) (by decide +kernel)
                  refine And.intro (fun _ => ?_) (fun (q : ¬ 0 = 0) => absurd q (by decide))
                  refine And.intro (show 0 ≤ (σ409 12 48) ∧ (σ409 12 48) < 45 from by omega) ?_
                  refine And.intro (show Int.negSucc 2147483647 ≤ 23 ∧ 23 ≤ 2147483647 from rgm (by omega)) ?_
                  refine And.intro (show -2147483648 ≤ ((σ409 12 48) + 1) ∧ ((σ409 12 48) + 1) ≤ 2147483647 from by omega) ?_
                  refine And.intro (show 0 ≤ ((σ409 12 48) + 1) ∧ ((σ409 12 48) + 1) ≤ 45 from by omega) ?_
                  have f421 : (-2147483648) ≤ σ409 12 49 ∧ σ409 12 49 ≤ 2147483647 := zf B a411 (t := 12) (f := 49) (by decide +kernel)
                  refine fun (z422 : Int) (h423 : -2147483648 ≤ z422 ∧ z422 ≤ 2147483647) (e424 : z422 = vadd (σ409 12 49) 1) => ?_
                  refine And.intro (show Int.negSucc 2147483647 ≤ z422 ∧ z422 ≤ 2147483647 from rgm (by omega)) ?_
                  refine And.intro (show 0 ≤ 1 ∧ 1 ≤ 1 from by omega) ?_
                  refine And.intro (fun _ => ?_) (fun (q : 1 = 0) => absurd q (by decide))
                  show zG E gJ1 md268 w gm_268 48 [(0, .inr (.inl 12)), (1, .inl 1)] (vup (vup (vup σ409 72 (σ409 12 48) 23) 12 48 ((σ409 12 48) + 1)) 12 49 z422) K
                  have hF : zIv (vup (vup (vup σ409 72 (σ409 12 48) 23) 12 48 ((σ409 12 48) + 1)) 12 49 z422) (u + 1) := by
                    show zIw (σ409 54) ((vup (vup (vup σ409 72 (σ409 12 48) 23) 12 48 ((σ409 12 48) + 1)) 12 49 z422) 72) (σ409 12 46) (σ409 12 48 + 1) (σ409 12 47) (σ409 12 50) (u + 1)
                    rw [show σ409 12 47 = σ 12 47 + 1 from by omega, show σ409 12 50 = 0 from by omega, show (vup (vup (vup σ409 72 (σ409 12 48) 23) 12 48 ((σ409 12 48) + 1)) 12 49 z422) 72 = ful (σ409 72) (σ409 12 48) 23 from vup_f]
                    exact zIw_push h419 (by omega) (by omega)
                  exact ih (vup (vup (vup σ409 72 (σ409 12 48) 23) 12 48 ((σ409 12 48) + 1)) 12 49 z422) (u + 1) (show 4 * (20 - σ409 12 47) + 2 * (u + 1) + σ409 12 50 < (m : Int) from by omega) hF (vX_fr a410 rfl rfl) (show 0 ≤ σ409 12 50 ∧ σ409 12 50 ≤ 1 from by omega)
                · refine And.intro (show Int.negSucc 2147483647 ≤ 4 ∧ 4 ≤ 2147483647 from rgm (by omega)) ?_
                  have f425 : 0 ≤ σ 12 12 ∧ σ 12 12 ≤ 940 := zf B hb (t := 12) (f := 12) (by decide +kernel)
                  refine And.intro (show Int.negSucc 2147483647 ≤ (σ 12 12) ∧ (σ 12 12) ≤ 2147483647 from rgm (by omega)) ?_
                  refine And.intro (show 0 ≤ 0 ∧ 0 ≤ 1 from by omega) ?_
                  refine And.intro (show 0 ≤ 0 ∧ 0 ≤ 1 from by omega) ?_
                  refine And.intro (fun (q : ¬ 0 = 0) => absurd q (by decide)) (fun _ => ?_)
                  refine fun (z426 : Int) (h427 : -2147483648 ≤ z426 ∧ z426 ≤ 2147483647) (e428 : z426 = vsub (-1) (σ 12 12)) => ?_
                  show K (some (.inl z426)) (vup (vup σ 12 15 4) 12 16 (σ 12 12))
                  exact hK _ _ (by omega) (vX_fr hX rfl rfl)
          · refine fun (z429 : Int) (h430 : z429 = 0 ∨ z429 = 1) => ?_
            rcases h430 with rfl | rfl
            · refine fun (z431 : Int) (h432 : -1 ≤ z431 ∧ z431 ≤ 7) => ?_
              refine And.intro (fun _ => ?_) (fun (q : 1 = 0) => absurd q (by decide))
              have f433 : (-2147483648) ≤ σ 12 47 ∧ σ 12 47 ≤ 2147483647 := zf B hb (t := 12) (f := 47) (by decide +kernel)
              refine And.intro (fun (c434 : (σ 12 47) = 20) => ?_) (fun (c435 : ¬ (σ 12 47) = 20) => ?_)
              · refine And.intro (show Int.negSucc 2147483647 ≤ 4 ∧ 4 ≤ 2147483647 from rgm (by omega)) ?_
                have f436 : 0 ≤ σ 12 12 ∧ σ 12 12 ≤ 940 := zf B hb (t := 12) (f := 12) (by decide +kernel)
                refine And.intro (show Int.negSucc 2147483647 ≤ (σ 12 12) ∧ (σ 12 12) ≤ 2147483647 from rgm (by omega)) ?_
                refine And.intro (show 0 ≤ 0 ∧ 0 ≤ 1 from by omega) ?_
                refine And.intro (show 0 ≤ 0 ∧ 0 ≤ 1 from by omega) ?_
                refine And.intro (fun (q : ¬ 0 = 0) => absurd q (by decide)) (fun _ => ?_)
                refine fun (z437 : Int) (h438 : -2147483648 ≤ z437 ∧ z437 ≤ 2147483647) (e439 : z437 = vsub (-1) (σ 12 12)) => ?_
                show K (some (.inl z437)) (vup (vup σ 12 15 4) 12 16 (σ 12 12))
                exact hK _ _ (by omega) (vX_fr hX rfl rfl)
              · have f440 : (-2147483648) ≤ σ 12 49 ∧ σ 12 49 ≤ 2147483647 := zf B hb (t := 12) (f := 49) (by decide +kernel)
                refine And.intro (fun (c441 : (σ 12 49) ≤ 8) => ?_) (fun (c442 : 8 < (σ 12 49)) => ?_)
                · refine And.intro (show -2147483648 ≤ ((σ 12 47) + 1) ∧ ((σ 12 47) + 1) ≤ 2147483647 from by omega) ?_
                  refine And.intro (show Int.negSucc 2147483647 ≤ ((σ 12 47) + 1) ∧ ((σ 12 47) + 1) ≤ 2147483647 from rgm (by omega)) ?_
                  refine And.intro (show vX (vup σ 12 47 ((σ 12 47) + 1)) from vX_fr hX rfl rfl) (And.intro (by decide +kernel) (fun (σ443 : vS) (a444 : vX σ443) (a445 : vBd (zso E) gST zuq σ443) (a446 : vFm zuq md271 (vup σ 12 47 ((σ 12 47) + 1)) σ443) => ?_))
                  have e447 : σ443 12 46 = σ 12 46 := vFm_fl a446 (t := 12) (f := 46) rfl (by decide +kernel)
                  have e448 : σ443 12 48 = σ 12 48 := vFm_fl a446 (t := 12) (f := 48) rfl (by decide +kernel)
                  have e449 : σ443 12 47 = (σ 12 47) + 1 := vFm_fl a446 (t := 12) (f := 47) rfl (by decide +kernel)
                  have e450 : σ443 12 50 = σ 12 50 := vFm_fl a446 (t := 12) (f := 50) rfl (by decide +kernel)
                  have e451 : σ443 72 = σ 72 := vFm_at a446 rfl (by decide +kernel)
                  have e452 : σ443 54 = σ 54 := vFm_at a446 rfl (by decide +kernel)
                  have h453 : zIw (σ443 54) (σ443 72) (σ443 12 46) (σ443 12 48) (σ 12 47) 0 u := by rw [e452, e451, e447, e448]; exact (hI0 (by omega))
                  refine And.intro (fun _ => ?_) (fun (q : 1 = 0) => absurd q (by decide))
                  have f454 : 0 ≤ σ443 12 48 ∧ σ443 12 48 ≤ 45 := zf B a445 (t := 12) (f := 48) (by decide +kernel)
                  refine And.intro (fun (q : 1 = 0) => absurd q (by decide)) (fun _ => ?_)
                  refine And.intro (show 0 ≤ (σ443 12 48) ∧ (σ443 12 48) < 45 from by omega) ?_
                  refine And.intro (show Int.negSucc 2147483647 ≤ 20 ∧ 20 ≤ 2147483647 from rgm (by omega)) ?_
                  refine And.intro (show -2147483648 ≤ ((σ443 12 48) + 1) ∧ ((σ443 12 48) + 1) ≤ 2147483647 from by omega) ?_
                  refine And.intro (show 0 ≤ ((σ443 12 48) + 1) ∧ ((σ443 12 48) + 1) ≤ 45 from by omega) ?_
                  have f455 : (-2147483648) ≤ σ443 12 49 ∧ σ443 12 49 ≤ 2147483647 := zf B a445 (t := 12) (f := 49) (by decide +kernel)
                  refine fun (z456 : Int) (h457 : -2147483648 ≤ z456 ∧ z456 ≤ 2147483647) (e458 : z456 = vadd (σ443 12 49) 1) => ?_
                  refine And.intro (show Int.negSucc 2147483647 ≤ z456 ∧ z456 ≤ 2147483647 from rgm (by omega)) ?_
                  refine And.intro (show 0 ≤ 1 ∧ 1 ≤ 1 from by omega) ?_
                  refine And.intro (fun _ => ?_) (fun (q : 1 = 0) => absurd q (by decide))
                  show zG E gJ1 md268 w gm_268 48 [(0, .inr (.inl 12)), (1, .inl 1)] (vup (vup (vup σ443 72 (σ443 12 48) 20) 12 48 ((σ443 12 48) + 1)) 12 49 z456) K
                  have hF : zIv (vup (vup (vup σ443 72 (σ443 12 48) 20) 12 48 ((σ443 12 48) + 1)) 12 49 z456) (u + 1) := by
                    show zIw (σ443 54) ((vup (vup (vup σ443 72 (σ443 12 48) 20) 12 48 ((σ443 12 48) + 1)) 12 49 z456) 72) (σ443 12 46) (σ443 12 48 + 1) (σ443 12 47) (σ443 12 50) (u + 1)
                    rw [show σ443 12 47 = σ 12 47 + 1 from by omega, show σ443 12 50 = 0 from by omega, show (vup (vup (vup σ443 72 (σ443 12 48) 20) 12 48 ((σ443 12 48) + 1)) 12 49 z456) 72 = ful (σ443 72) (σ443 12 48) 20 from vup_f]
                    exact zIw_push h453 (by omega) (by omega)
                  exact ih (vup (vup (vup σ443 72 (σ443 12 48) 20) 12 48 ((σ443 12 48) + 1)) 12 49 z456) (u + 1) (show 4 * (20 - σ443 12 47) + 2 * (u + 1) + σ443 12 50 < (m : Int) from by omega) hF (vX_fr a444 rfl rfl) (show 0 ≤ σ443 12 50 ∧ σ443 12 50 ≤ 1 from by omega)
                · refine And.intro (show Int.negSucc 2147483647 ≤ 4 ∧ 4 ≤ 2147483647 from rgm (by omega)) ?_
                  have f459 : 0 ≤ σ 12 12 ∧ σ 12 12 ≤ 940 := zf B hb (t := 12) (f := 12) (by decide +kernel)
                  refine And.intro (show Int.negSucc 2147483647 ≤ (σ 12 12) ∧ (σ 12 12) ≤ 2147483647 from rgm (by omega)) ?_
                  refine And.intro (show 0 ≤ 0 ∧ 0 ≤ 1 from by omega) ?_
                  refine And.intro (show 0 ≤ 0 ∧ 0 ≤ 1 from by omega) ?_
                  refine And.intro (fun (q : ¬ 0 = 0) => absurd q (by decide)) (fun _ => ?_)
                  refine fun (z460 : Int) (h461 : -2147483648 ≤ z460 ∧ z460 ≤ 2147483647) (e462 : z460 = vsub (-1) (σ 12 12)) => ?_
                  show K (some (.inl z460)) (vup (vup σ 12 15 4) 12 16 (σ 12 12))
                  exact hK _ _ (by omega) (vX_fr hX rfl rfl)
            · refine fun (z463 : Int) (h464 : -1 ≤ z463 ∧ z463 ≤ 7) => ?_
              refine And.intro (fun _ => ?_) (fun (q : 1 = 0) => absurd q (by decide))
              have f465 : (-2147483648) ≤ σ 12 47 ∧ σ 12 47 ≤ 2147483647 := zf B hb (t := 12) (f := 47) (by decide +kernel)
              refine And.intro (fun (c466 : (σ 12 47) = 20) => ?_) (fun (c467 : ¬ (σ 12 47) = 20) => ?_)
              · refine And.intro (show Int.negSucc 2147483647 ≤ 4 ∧ 4 ≤ 2147483647 from rgm (by omega)) ?_
                have f468 : 0 ≤ σ 12 12 ∧ σ 12 12 ≤ 940 := zf B hb (t := 12) (f := 12) (by decide +kernel)
                refine And.intro (show Int.negSucc 2147483647 ≤ (σ 12 12) ∧ (σ 12 12) ≤ 2147483647 from rgm (by omega)) ?_
                refine And.intro (show 0 ≤ 0 ∧ 0 ≤ 1 from by omega) ?_
                refine And.intro (show 0 ≤ 0 ∧ 0 ≤ 1 from by omega) ?_
                refine And.intro (fun (q : ¬ 0 = 0) => absurd q (by decide)) (fun _ => ?_)
                refine fun (z469 : Int) (h470 : -2147483648 ≤ z469 ∧ z469 ≤ 2147483647) (e471 : z469 = vsub (-1) (σ 12 12)) => ?_
                show K (some (.inl z469)) (vup (vup σ 12 15 4) 12 16 (σ 12 12))
                exact hK _ _ (by omega) (vX_fr hX rfl rfl)
              · have f472 : (-2147483648) ≤ σ 12 49 ∧ σ 12 49 ≤ 2147483647 := zf B hb (t := 12) (f := 49) (by decide +kernel)
                refine And.intro (fun (c473 : (σ 12 49) ≤ 8) => ?_) (fun (c474 : 8 < (σ 12 49)) => ?_)
                · refine And.intro (show -2147483648 ≤ ((σ 12 47) + 1) ∧ ((σ 12 47) + 1) ≤ 2147483647 from by omega) ?_
                  refine And.intro (show Int.negSucc 2147483647 ≤ ((σ 12 47) + 1) ∧ ((σ 12 47) + 1) ≤ 2147483647 from rgm (by omega)) ?_
                  refine And.intro (show vX (vup σ 12 47 ((σ 12 47) + 1)) from vX_fr hX rfl rfl) (And.intro (by decide +kernel) (fun (σ475 : vS) (a476 : vX σ475) (a477 : vBd (zso E) gST zuq σ475) (a478 : vFm zuq md271 (vup σ 12 47 ((σ 12 47) + 1)) σ475) => ?_))
                  have e479 : σ475 12 46 = σ 12 46 := vFm_fl a478 (t := 12) (f := 46) rfl (by decide +kernel)
                  have e480 : σ475 12 48 = σ 12 48 := vFm_fl a478 (t := 12) (f := 48) rfl (by decide +kernel)
                  have e481 : σ475 12 47 = (σ 12 47) + 1 := vFm_fl a478 (t := 12) (f := 47) rfl (by decide +kernel)
                  have e482 : σ475 12 50 = σ 12 50 := vFm_fl a478 (t := 12) (f := 50) rfl (by decide +kernel)
                  have e483 : σ475 72 = σ 72 := vFm_at a478 rfl (by decide +kernel)
                  have e484 : σ475 54 = σ 54 := vFm_at a478 rfl (by decide +kernel)
                  have h485 : zIw (σ475 54) (σ475 72) (σ475 12 46) (σ475 12 48) (σ 12 47) 0 u := by rw [e484, e483, e479, e480]; exact (hI0 (by omega))
                  refine And.intro (fun _ => ?_) (fun (q : 1 = 0) => absurd q (by decide))
                  have f486 : 0 ≤ σ475 12 48 ∧ σ475 12 48 ≤ 45 := zf B a477 (t := 12) (f := 48) (by decide +kernel)
                  refine And.intro (fun (q : 1 = 0) => absurd q (by decide)) (fun _ => ?_)
                  refine And.intro (show 0 ≤ (σ475 12 48) ∧ (σ475 12 48) < 45 from by omega) ?_
                  refine And.intro (show Int.negSucc 2147483647 ≤ 20 ∧ 20 ≤ 2147483647 from rgm (by omega)) ?_
                  refine And.intro (show -2147483648 ≤ ((σ475 12 48) + 1) ∧ ((σ475 12 48) + 1) ≤ 2147483647 from by omega) ?_
                  refine And.intro (show 0 ≤ ((σ475 12 48) + 1) ∧ ((σ475 12 48) + 1) ≤ 45 from by omega) ?_
                  have f487 : (-2147483648) ≤ σ475 12 49 ∧ σ475 12 49 ≤ 2147483647 := zf B a477 (t := 12) (f := 49) (by decide +kernel)
                  refine fun (z488 : Int) (h489 : -2147483648 ≤ z488 ∧ z488 ≤ 2147483647) (e490 : z488 = vadd (σ475 12 49) 1) => ?_
                  refine And.intro (show Int.negSucc 2147483647 ≤ z488 ∧ z488 ≤ 2147483647 from rgm (by omega)) ?_
                  refine And.intro (show 0 ≤ 1 ∧ 1 ≤ 1 from by omega) ?_
                  refine And.intro (fun _ => ?_) (fun (q : 1 = 0) => absurd q (by decide))
                  show zG E gJ1 md268 w gm_268 48 [(0, .inr (.inl 12)), (1, .inl 1)] (vup (vup (vup σ475 72 (σ475 12 48) 20) 12 48 ((σ475 12 48) + 1)) 12 49 z488) K
                  have hF : zIv (vup (vup (vup σ475 72 (σ475 12 48) 20) 12 48 ((σ475 12 48) + 1)) 12 49 z488) (u + 1) := by
                    show zIw (σ475 54) ((vup (vup (vup σ475 72 (σ475 12 48) 20) 12 48 ((σ475 12 48) + 1)) 12 49 z488) 72) (σ475 12 46) (σ475 12 48 + 1) (σ475 12 47) (σ475 12 50) (u + 1)
                    rw [show σ475 12 47 = σ 12 47 + 1 from by omega, show σ475 12 50 = 0 from by omega, show (vup (vup (vup σ475 72 (σ475 12 48) 20) 12 48 ((σ475 12 48) + 1)) 12 49 z488) 72 = ful (σ475 72) (σ475 12 48) 20 from vup_f]
                    exact zIw_push h485 (by omega) (by omega)
                  exact ih (vup (vup (vup σ475 72 (σ475 12 48) 20) 12 48 ((σ475 12 48) + 1)) 12 49 z488) (u + 1) (show 4 * (20 - σ475 12 47) + 2 * (u + 1) + σ475 12 50 < (m : Int) from by omega) hF (vX_fr a476 rfl rfl) (show 0 ≤ σ475 12 50 ∧ σ475 12 50 ≤ 1 from by omega)
                · refine And.intro (show Int.negSucc 2147483647 ≤ 4 ∧ 4 ≤ 2147483647 from rgm (by omega)) ?_
                  have f491 : 0 ≤ σ 12 12 ∧ σ 12 12 ≤ 940 := zf B hb (t := 12) (f := 12) (by decide +kernel)
                  refine And.intro (show Int.negSucc 2147483647 ≤ (σ 12 12) ∧ (σ 12 12) ≤ 2147483647 from rgm (by omega)) ?_
                  refine And.intro (show 0 ≤ 0 ∧ 0 ≤ 1 from by omega) ?_
                  refine And.intro (show 0 ≤ 0 ∧ 0 ≤ 1 from by omega) ?_
                  refine And.intro (fun (q : ¬ 0 = 0) => absurd q (by decide)) (fun _ => ?_)
                  refine fun (z492 : Int) (h493 : -2147483648 ≤ z492 ∧ z492 ≤ 2147483647) (e494 : z492 = vsub (-1) (σ 12 12)) => ?_
                  show K (some (.inl z492)) (vup (vup σ 12 15 4) 12 16 (σ 12 12))
                  exact hK _ _ (by omega) (vX_fr hX rfl rfl)
        · refine Exists.intro u (And.intro (And.intro hI (by omega)) (fun (u495 : Int) (σ496 : vS) (a497 : u495 ≤ u) (a498 : zIv σ496 u495) (a499 : zfd σ σ496) => ?_))
          have x500 : vX σ496 := vX_fr hX (a499.1 52 (by decide) (by decide)) (a499.1 74 (by decide) (by decide))
          have e501 : σ496 12 47 = σ 12 47 := a499.2 47 (by decide) (by decide) (by decide)
          have e502 : σ496 12 50 = σ 12 50 := a499.2 50 (by decide) (by decide) (by decide)
          have e505 : σ496 12 12 = σ 12 12 := a499.2 12 (by decide) (by decide) (by decide)
          have f506 : 0 ≤ σ 12 12 ∧ σ 12 12 ≤ 940 := zf B hb (t := 12) (f := 12) (by decide +kernel)
          refine fun (z507 : Int) (h508 : z507 = 0 ∨ z507 = 1) => ?_
          rcases h508 with rfl | rfl
          · refine And.intro (fun (q : ¬ 0 = 0) => absurd q (by decide)) (fun _ => ?_)
            refine fun (z509 : Int) (h510 : z509 = 0 ∨ z509 = 1) => ?_
            rcases h510 with rfl | rfl
            · refine And.intro (fun _ => ?_) (fun (q : ¬ 0 = 0) => absurd q (by decide))
              refine Exists.intro u495 (And.intro (And.intro a498 (by omega)) (fun (σ511 : vS) (a512 : zIv σ511 u495) (a513 : zfd σ496 σ511) (a514 : 22 = 22 → σ511 12 48 ≤ 0 ∨ ¬ zj (σ511 72) (σ511 12 48 - 1)) => ?_))
              have x515 : vX σ511 := vX_fr x500 (a513.1 52 (by decide) (by decide)) (a513.1 74 (by decide) (by decide))
              have e516 : σ511 12 47 = σ496 12 47 := a513.2 47 (by decide) (by decide) (by decide)
              have e517 : σ511 12 50 = σ496 12 50 := a513.2 50 (by decide) (by decide) (by decide)
              have e520 : σ511 12 50 = 1 := by omega
              have h518 : zIw (σ511 54) (σ511 72) (σ511 12 46) (σ511 12 48) (σ511 12 47) 1 u495 := by
                rw [← e520]
                exact a512
              have h519 := zIw_b h518 (by omega)
              have e521 : σ511 12 12 = σ496 12 12 := a513.2 12 (by decide) (by decide) (by decide)
              refine fun (z522 : Int) (h523 : z522 = 0 ∨ z522 = 1) => ?_
              rcases h523 with rfl | rfl
              · refine And.intro (fun _ => ?_) (fun (q : ¬ 0 = 0) => absurd q (by decide))
                refine And.intro (show Int.negSucc 2147483647 ≤ 1 ∧ 1 ≤ 2147483647 from rgm (by omega)) ?_
                refine And.intro (show Int.negSucc 2147483647 ≤ (σ511 12 12) ∧ (σ511 12 12) ≤ 2147483647 from rgm (by omega)) ?_
                refine And.intro (show 0 ≤ 0 ∧ 0 ≤ 1 from by omega) ?_
                refine And.intro (show 0 ≤ 0 ∧ 0 ≤ 1 from by omega) ?_
                refine And.intro (fun (q : ¬ 0 = 0) => absurd q (by decide)) (fun _ => ?_)
                refine fun (z524 : Int) (h525 : -2147483648 ≤ z524 ∧ z524 ≤ 2147483647) (e526 : z524 = vsub (-1) (σ511 12 12)) => ?_
                show K (some (.inl z524)) (vup (vup σ511 12 15 1) 12 16 (σ511 12 12))
                exact hK _ _ (by omega) (vX_fr x515 rfl rfl)
              · refine And.intro (fun (q : 1 = 0) => absurd q (by decide)) (fun _ => ?_)
                refine And.intro (fun (c527 : ¬ (σ511 12 48) = 0) => ?_) (fun (c528 : (σ511 12 48) = 0) => ?_)
                · refine And.intro (show -2147483648 ≤ ((σ511 12 48) - 1) ∧ ((σ511 12 48) - 1) ≤ 2147483647 from by omega) ?_
                  refine And.intro (show 0 ≤ ((σ511 12 48) - 1) ∧ ((σ511 12 48) - 1) ≤ 45 from by omega) ?_
                  refine fun (z529 : Int) (h530 : -2147483648 ≤ z529 ∧ z529 ≤ 2147483647) (e531 : z529 = vsub (σ511 12 49) 1) => ?_
                  refine And.intro (show Int.negSucc 2147483647 ≤ z529 ∧ z529 ≤ 2147483647 from rgm (by omega)) ?_
                  refine And.intro (show vX (vup (vup σ511 12 48 ((σ511 12 48) - 1)) 12 49 z529) from vX_fr x515 rfl rfl) (And.intro (by decide +kernel) (fun (σ532 : vS) (a533 : vX σ532) (a534 : vBd (zso E) gST zuq σ532) (a535 : vFm zuq md271 (vup (vup σ511 12 48 ((σ511 12 48) - 1)) 12 49 z529) σ532) => ?_))
                  have e536 : σ532 12 46 = σ511 12 46 := vFm_fl a535 (t := 12) (f := 46) rfl (by decide +kernel)
                  have e537 : σ532 12 48 = (σ511 12 48) - 1 := vFm_fl a535 (t := 12) (f := 48) rfl (by decide +kernel)
                  have e538 : σ532 12 47 = σ511 12 47 := vFm_fl a535 (t := 12) (f := 47) rfl (by decide +kernel)
                  have e539 : σ532 12 50 = σ511 12 50 := vFm_fl a535 (t := 12) (f := 50) rfl (by decide +kernel)
                  have e540 : σ532 72 = σ511 72 := vFm_at a535 rfl (by decide +kernel)
                  have e541 : σ532 54 = σ511 54 := vFm_at a535 rfl (by decide +kernel)
                  have h542 : zIw (σ532 54) (σ532 72) (σ532 12 46) (σ532 12 48) (σ532 12 47) (σ532 12 50) (u495 - 1) := by
                    rw [e541, e540, e536, e537, e538, e539, e520]
                    exact zIw_pop h518 (by omega) ((a514 rfl).resolve_left (by omega))
                  refine And.intro (show 0 ≤ 1 ∧ 1 ≤ 1 from by omega) ?_
                  refine And.intro (fun _ => ?_) (fun (q : 1 = 0) => absurd q (by decide))
                  show zG E gJ1 md268 w gm_268 48 [(0, .inr (.inl 12)), (1, .inl 1)] σ532 K
                  exact ih σ532 (u495 - 1) (by omega) h542 a533 (by omega)
                · refine And.intro (show Int.negSucc 2147483647 ≤ 1 ∧ 1 ≤ 2147483647 from rgm (by omega)) ?_
                  refine And.intro (show Int.negSucc 2147483647 ≤ (σ511 12 12) ∧ (σ511 12 12) ≤ 2147483647 from rgm (by omega)) ?_
                  refine And.intro (show 0 ≤ 0 ∧ 0 ≤ 1 from by omega) ?_
                  refine And.intro (show 0 ≤ 0 ∧ 0 ≤ 1 from by omega) ?_
                  refine And.intro (fun (q : ¬ 0 = 0) => absurd q (by decide)) (fun _ => ?_)
                  refine fun (z543 : Int) (h544 : -2147483648 ≤ z543 ∧ z543 ≤ 2147483647) (e545 : z543 = vsub (-1) (σ511 12 12)) => ?_
                  show K (some (.inl z543)) (vup (vup σ511 12 15 1) 12 16 (σ511 12 12))
                  exact hK _ _ (by omega) (vX_fr x515 rfl rfl)
            · refine And.intro (fun (q : 1 = 0) => absurd q (by decide)) (fun _ => ?_)
              refine fun (z546 : Int) (h547 : z546 = 0 ∨ z546 = 1) => ?_
              rcases h547 with rfl | rfl
              · refine And.intro (fun _ => ?_) (fun (q : ¬ 0 = 0) => absurd q (by decide))
                refine Exists.intro u495 (And.intro (And.intro a498 (by omega)) (fun (σ548 : vS) (a549 : zIv σ548 u495) (a550 : zfd σ496 σ548) (a551 : 22 = 22 → σ548 12 48 ≤ 0 ∨ ¬ zj (σ548 72) (σ548 12 48 - 1)) => ?_))
                have x552 : vX σ548 := vX_fr x500 (a550.1 52 (by decide) (by decide)) (a550.1 74 (by decide) (by decide))
                have e553 : σ548 12 47 = σ496 12 47 := a550.2 47 (by decide) (by decide) (by decide)
                have e554 : σ548 12 50 = σ496 12 50 := a550.2 50 (by decide) (by decide) (by decide)
                have e557 : σ548 12 50 = 1 := by omega
                have h555 : zIw (σ548 54) (σ548 72) (σ548 12 46) (σ548 12 48) (σ548 12 47) 1 u495 := by
                  rw [← e557]
                  exact a549
                have h556 := zIw_b h555 (by omega)
                have e558 : σ548 12 12 = σ496 12 12 := a550.2 12 (by decide) (by decide) (by decide)
                refine fun (z559 : Int) (h560 : z559 = 0 ∨ z559 = 1) => ?_
                rcases h560 with rfl | rfl
                · refine And.intro (fun _ => ?_) (fun (q : ¬ 0 = 0) => absurd q (by decide))
                  refine And.intro (show 0 ≤ (σ548 12 48) ∧ (σ548 12 48) < 45 from by omega) ?_
                  refine And.intro (show Int.negSucc 2147483647 ≤ 22 ∧ 22 ≤ 2147483647 from rgm (by omega)) ?_
                  refine And.intro (show -2147483648 ≤ ((σ548 12 48) + 1) ∧ ((σ548 12 48) + 1) ≤ 2147483647 from by omega) ?_
                  refine And.intro (show 0 ≤ ((σ548 12 48) + 1) ∧ ((σ548 12 48) + 1) ≤ 45 from by omega) ?_
                  refine And.intro (show 0 ≤ 0 ∧ 0 ≤ 1 from by omega) ?_
                  refine And.intro (show 0 ≤ 0 ∧ 0 ≤ 1 from by omega) ?_
                  refine And.intro (show vX (vup (vup (vup σ548 72 (σ548 12 48) 22) 12 48 ((σ548 12 48) + 1)) 12 50 0) from vX_fr x552 rfl rfl) (And.intro (by decide +kernel) (fun (σ561 : vS) (a562 : vX σ561) (a563 : vBd (zso E) gST zuq σ561) (a564 : vFm zuq md271 (vup (vup (vup σ548 72 (σ548 12 48) 22) 12 48 ((σ548 12 48) + 1)) 12 50 0) σ561) => ?_))
                  have e565 : σ561 12 46 = σ548 12 46 := vFm_fl a564 (t := 12) (f := 46) rfl (by decide +kernel)
                  have e566 : σ561 12 48 = (σ548 12 48) + 1 := vFm_fl a564 (t := 12) (f := 48) rfl (by decide +kernel)
                  have e567 : σ561 12 47 = σ548 12 47 := vFm_fl a564 (t := 12) (f := 47) rfl (by decide +kernel)
                  have e568 : σ561 12 50 = 0 := vFm_fl a564 (t := 12) (f := 50) rfl (by decide +kernel)
                  have e569 : σ561 72 = (vup (vup (vup σ548 72 (σ548 12 48) 22) 12 48 ((σ548 12 48) + 1)) 12 50 0) 72 := vFm_at a564 rfl (by decide +kernel)
                  have e570 : σ561 54 = σ548 54 := vFm_at a564 rfl (by decide +kernel)
                  have h571 : zIw (σ561 54) (σ561 72) (σ561 12 46) (σ561 12 48) (σ561 12 47) (σ561 12 50) u495 := by
                    rw [e570, e569, e565, e566, e567, e568, show (vup (vup (vup σ548 72 (σ548 12 48) 22) 12 48 ((σ548 12 48) + 1)) 12 50 0) 72 = ful (σ548 72) (σ548 12 48) 22 from vup_f]
                    exact zIw_op h555 (by omega)
                  refine And.intro (show 0 ≤ 1 ∧ 1 ≤ 1 from by omega) ?_
                  refine And.intro (fun _ => ?_) (fun (q : 1 = 0) => absurd q (by decide))
                  show zG E gJ1 md268 w gm_268 48 [(0, .inr (.inl 12)), (1, .inl 1)] σ561 K
                  exact ih σ561 u495 (by omega) h571 a562 (by omega)
                · refine And.intro (fun (q : 1 = 0) => absurd q (by decide)) (fun _ => ?_)
                  refine And.intro (show 0 ≤ (σ548 12 48) ∧ (σ548 12 48) < 45 from by omega) ?_
                  refine And.intro (show Int.negSucc 2147483647 ≤ 21 ∧ 21 ≤ 2147483647 from rgm (by omega)) ?_
                  refine And.intro (show -2147483648 ≤ ((σ548 12 48) + 1) ∧ ((σ548 12 48) + 1) ≤ 2147483647 from by omega) ?_
                  refine And.intro (show 0 ≤ ((σ548 12 48) + 1) ∧ ((σ548 12 48) + 1) ≤ 45 from by omega) ?_
                  refine And.intro (show 0 ≤ 0 ∧ 0 ≤ 1 from by omega) ?_
                  refine And.intro (show 0 ≤ 0 ∧ 0 ≤ 1 from by omega) ?_
                  refine And.intro (show vX (vup (vup (vup σ548 72 (σ548 12 48) 21) 12 48 ((σ548 12 48) + 1)) 12 50 0) from vX_fr x552 rfl rfl) (And.intro (by decide +kernel) (fun (σ572 : vS) (a573 : vX σ572) (a574 : vBd (zso E) gST zuq σ572) (a575 : vFm zuq md271 (vup (vup (vup σ548 72 (σ548 12 48) 21) 12 48 ((σ548 12 48) + 1)) 12 50 0) σ572) => ?_))
                  have e576 : σ572 12 46 = σ548 12 46 := vFm_fl a575 (t := 12) (f := 46) rfl (by decide +kernel)
                  have e577 : σ572 12 48 = (σ548 12 48) + 1 := vFm_fl a575 (t := 12) (f := 48) rfl (by decide +kernel)
                  have e578 : σ572 12 47 = σ548 12 47 := vFm_fl a575 (t := 12) (f := 47) rfl (by decide +kernel)
                  have e579 : σ572 12 50 = 0 := vFm_fl a575 (t := 12) (f := 50) rfl (by decide +kernel)
                  have e580 : σ572 72 = (vup (vup (vup σ548 72 (σ548 12 48) 21) 12 48 ((σ548 12 48) + 1)) 12 50 0) 72 := vFm_at a575 rfl (by decide +kernel)
                  have e581 : σ572 54 = σ548 54 := vFm_at a575 rfl (by decide +kernel)
                  have h582 : zIw (σ572 54) (σ572 72) (σ572 12 46) (σ572 12 48) (σ572 12 47) (σ572 12 50) u495 := by
                    rw [e581, e580, e576, e577, e578, e579, show (vup (vup (vup σ548 72 (σ548 12 48) 21) 12 48 ((σ548 12 48) + 1)) 12 50 0) 72 = ful (σ548 72) (σ548 12 48) 21 from vup_f]
                    exact zIw_op h555 (by omega)
                  refine And.intro (show 0 ≤ 1 ∧ 1 ≤ 1 from by omega) ?_
                  refine And.intro (fun _ => ?_) (fun (q : 1 = 0) => absurd q (by decide))
                  show zG E gJ1 md268 w gm_268 48 [(0, .inr (.inl 12)), (1, .inl 1)] σ572 K
                  exact ih σ572 u495 (by omega) h582 a573 (by omega)
              · refine And.intro (fun (q : 1 = 0) => absurd q (by decide)) (fun _ => ?_)
                refine Exists.intro u495 (And.intro (And.intro a498 (by omega)) (fun (σ583 : vS) (a584 : zIv σ583 u495) (a585 : zfd σ496 σ583) (a586 : 21 = 22 → σ583 12 48 ≤ 0 ∨ ¬ zj (σ583 72) (σ583 12 48 - 1)) => ?_))
                have x587 : vX σ583 := vX_fr x500 (a585.1 52 (by decide) (by decide)) (a585.1 74 (by decide) (by decide))
                have e588 : σ583 12 47 = σ496 12 47 := a585.2 47 (by decide) (by decide) (by decide)
                have e589 : σ583 12 50 = σ496 12 50 := a585.2 50 (by decide) (by decide) (by decide)
                have e592 : σ583 12 50 = 1 := by omega
                have h590 : zIw (σ583 54) (σ583 72) (σ583 12 46) (σ583 12 48) (σ583 12 47) 1 u495 := by
                  rw [← e592]
                  exact a584
                have h591 := zIw_b h590 (by omega)
                have e593 : σ583 12 12 = σ496 12 12 := a585.2 12 (by decide) (by decide) (by decide)
                refine fun (z594 : Int) (h595 : z594 = 0 ∨ z594 = 1) => ?_
                rcases h595 with rfl | rfl
                · refine And.intro (fun _ => ?_) (fun (q : ¬ 0 = 0) => absurd q (by decide))
                  refine And.intro (show 0 ≤ (σ583 12 48) ∧ (σ583 12 48) < 45 from by omega) ?_
                  refine And.intro (show Int.negSucc 2147483647 ≤ 22 ∧ 22 ≤ 2147483647 from rgm (by omega)) ?_
                  refine And.intro (show -2147483648 ≤ ((σ583 12 48) + 1) ∧ ((σ583 12 48) + 1) ≤ 2147483647 from by omega) ?_
                  refine And.intro (show 0 ≤ ((σ583 12 48) + 1) ∧ ((σ583 12 48) + 1) ≤ 45 from by omega) ?_
                  refine And.intro (show 0 ≤ 0 ∧ 0 ≤ 1 from by omega) ?_
                  refine And.intro (show 0 ≤ 0 ∧ 0 ≤ 1 from by omega) ?_
                  refine And.intro (show vX (vup (vup (vup σ583 72 (σ583 12 48) 22) 12 48 ((σ583 12 48) + 1)) 12 50 0) from vX_fr x587 rfl rfl) (And.intro (by decide +kernel) (fun (σ596 : vS) (a597 : vX σ596) (a598 : vBd (zso E) gST zuq σ596) (a599 : vFm zuq md271 (vup (vup (vup σ583 72 (σ583 12 48) 22) 12 48 ((σ583 12 48) + 1)) 12 50 0) σ596) => ?_))
                  have e600 : σ596 12 46 = σ583 12 46 := vFm_fl a599 (t := 12) (f := 46) rfl (by decide +kernel)
                  have e601 : σ596 12 48 = (σ583 12 48) + 1 := vFm_fl a599 (t := 12) (f := 48) rfl (by decide +kernel)
                  have e602 : σ596 12 47 = σ583 12 47 := vFm_fl a599 (t := 12) (f := 47) rfl (by decide +kernel)
                  have e603 : σ596 12 50 = 0 := vFm_fl a599 (t := 12) (f := 50) rfl (by decide +kernel)
                  have e604 : σ596 72 = (vup (vup (vup σ583 72 (σ583 12 48) 22) 12 48 ((σ583 12 48) + 1)) 12 50 0) 72 := vFm_at a599 rfl (by decide +kernel)
                  have e605 : σ596 54 = σ583 54 := vFm_at a599 rfl (by decide +kernel)
                  have h606 : zIw (σ596 54) (σ596 72) (σ596 12 46) (σ596 12 48) (σ596 12 47) (σ596 12 50) u495 := by
                    rw [e605, e604, e600, e601, e602, e603, show (vup (vup (vup σ583 72 (σ583 12 48) 22) 12 48 ((σ583 12 48) + 1)) 12 50 0) 72 = ful (σ583 72) (σ583 12 48) 22 from vup_f]
                    exact zIw_op h590 (by omega)
                  refine And.intro (show 0 ≤ 1 ∧ 1 ≤ 1 from by omega) ?_
                  refine And.intro (fun _ => ?_) (fun (q : 1 = 0) => absurd q (by decide))
                  show zG E gJ1 md268 w gm_268 48 [(0, .inr (.inl 12)), (1, .inl 1)] σ596 K
                  exact ih σ596 u495 (by omega) h606 a597 (by omega)
                · refine And.intro (fun (q : 1 = 0) => absurd q (by decide)) (fun _ => ?_)
                  refine And.intro (show 0 ≤ (σ583 12 48) ∧ (σ583 12 48) < 45 from by omega) ?_
                  refine And.intro (show Int.negSucc 2147483647 ≤ 21 ∧ 21 ≤ 2147483647 from rgm (by omega)) ?_
                  refine And.intro (show -2147483648 ≤ ((σ583 12 48) + 1) ∧ ((σ583 12 48) + 1) ≤ 2147483647 from by omega) ?_
                  refine And.intro (show 0 ≤ ((σ583 12 48) + 1) ∧ ((σ583 12 48) + 1) ≤ 45 from by omega) ?_
                  refine And.intro (show 0 ≤ 0 ∧ 0 ≤ 1 from by omega) ?_
                  refine And.intro (show 0 ≤ 0 ∧ 0 ≤ 1 from by omega) ?_
                  refine And.intro (show vX (vup (vup (vup σ583 72 (σ583 12 48) 21) 12 48 ((σ583 12 48) + 1)) 12 50 0) from vX_fr x587 rfl rfl) (And.intro (by decide +kernel) (fun (σ607 : vS) (a608 : vX σ607) (a609 : vBd (zso E) gST zuq σ607) (a610 : vFm zuq md271 (vup (vup (vup σ583 72 (σ583 12 48) 21) 12 48 ((σ583 12 48) + 1)) 12 50 0) σ607) => ?_))
                  have e611 : σ607 12 46 = σ583 12 46 := vFm_fl a610 (t := 12) (f := 46) rfl (by decide +kernel)
                  have e612 : σ607 12 48 = (σ583 12 48) + 1 := vFm_fl a610 (t := 12) (f := 48) rfl (by decide +kernel)
                  have e613 : σ607 12 47 = σ583 12 47 := vFm_fl a610 (t := 12) (f := 47) rfl (by decide +kernel)
                  have e614 : σ607 12 50 = 0 := vFm_fl a610 (t := 12) (f := 50) rfl (by decide +kernel)
                  have e615 : σ607 72 = (vup (vup (vup σ583 72 (σ583 12 48) 21) 12 48 ((σ583 12 48) + 1)) 12 50 0) 72 := vFm_at a610 rfl (by decide +kernel)
                  have e616 : σ607 54 = σ583 54 := vFm_at a610 rfl (by decide +kernel)
                  have h617 : zIw (σ607 54) (σ607 72) (σ607 12 46) (σ607 12 48) (σ607 12 47) (σ607 12 50) u495 := by
                    rw [e616, e615, e611, e612, e613, e614, show (vup (vup (vup σ583 72 (σ583 12 48) 21) 12 48 ((σ583 12 48) + 1)) 12 50 0) 72 = ful (σ583 72) (σ583 12 48) 21 from vup_f]
                    exact zIw_op h590 (by omega)
                  refine And.intro (show 0 ≤ 1 ∧ 1 ≤ 1 from by omega) ?_
                  refine And.intro (fun _ => ?_) (fun (q : 1 = 0) => absurd q (by decide))
                  show zG E gJ1 md268 w gm_268 48 [(0, .inr (.inl 12)), (1, .inl 1)] σ607 K
                  exact ih σ607 u495 (by omega) h617 a608 (by omega)
          · refine And.intro (fun _ => ?_) (fun (q : 1 = 0) => absurd q (by decide))
            refine fun (z618 : Int) (h619 : z618 = 0 ∨ z618 = 1) => ?_
            rcases h619 with rfl | rfl
            · refine And.intro (fun _ => ?_) (fun (q : ¬ 0 = 0) => absurd q (by decide))
              refine Exists.intro u495 (And.intro (And.intro a498 (by omega)) (fun (σ620 : vS) (a621 : zIv σ620 u495) (a622 : zfd σ496 σ620) (a623 : 22 = 22 → σ620 12 48 ≤ 0 ∨ ¬ zj (σ620 72) (σ620 12 48 - 1)) => ?_))
              have x624 : vX σ620 := vX_fr x500 (a622.1 52 (by decide) (by decide)) (a622.1 74 (by decide) (by decide))
              have e625 : σ620 12 47 = σ496 12 47 := a622.2 47 (by decide) (by decide) (by decide)
              have e626 : σ620 12 50 = σ496 12 50 := a622.2 50 (by decide) (by decide) (by decide)
              have e629 : σ620 12 50 = 1 := by omega
              have h627 : zIw (σ620 54) (σ620 72) (σ620 12 46) (σ620 12 48) (σ620 12 47) 1 u495 := by
                rw [← e629]
                exact a621
              have h628 := zIw_b h627 (by omega)
              have e630 : σ620 12 12 = σ496 12 12 := a622.2 12 (by decide) (by decide) (by decide)
              refine fun (z631 : Int) (h632 : z631 = 0 ∨ z631 = 1) => ?_
              rcases h632 with rfl | rfl
              · refine And.intro (fun _ => ?_) (fun (q : ¬ 0 = 0) => absurd q (by decide))
                refine And.intro (show 0 ≤ (σ620 12 48) ∧ (σ620 12 48) < 45 from by omega) ?_
                refine And.intro (show Int.negSucc 2147483647 ≤ 22 ∧ 22 ≤ 2147483647 from rgm (by omega)) ?_
                refine And.intro (show -2147483648 ≤ ((σ620 12 48) + 1) ∧ ((σ620 12 48) + 1) ≤ 2147483647 from by omega) ?_
                refine And.intro (show 0 ≤ ((σ620 12 48) + 1) ∧ ((σ620 12 48) + 1) ≤ 45 from by omega) ?_
                refine And.intro (show 0 ≤ 0 ∧ 0 ≤ 1 from by omega) ?_
                refine And.intro (show 0 ≤ 0 ∧ 0 ≤ 1 from by omega) ?_
                refine And.intro (show vX (vup (vup (vup σ620 72 (σ620 12 48) 22) 12 48 ((σ620 12 48) + 1)) 12 50 0) from vX_fr x624 rfl rfl) (And.intro (by decide +kernel) (fun (σ633 : vS) (a634 : vX σ633) (a635 : vBd (zso E) gST zuq σ633) (a636 : vFm zuq md271 (vup (vup (vup σ620 72 (σ620 12 48) 22) 12 48 ((σ620 12 48) + 1)) 12 50 0) σ633) => ?_))
                have e637 : σ633 12 46 = σ620 12 46 := vFm_fl a636 (t := 12) (f := 46) rfl (by decide +kernel)
                have e638 : σ633 12 48 = (σ620 12 48) + 1 := vFm_fl a636 (t := 12) (f := 48) rfl (by decide +kernel)
                have e639 : σ633 12 47 = σ620 12 47 := vFm_fl a636 (t := 12) (f := 47) rfl (by decide +kernel)
                have e640 : σ633 12 50 = 0 := vFm_fl a636 (t := 12) (f := 50) rfl (by decide +kernel)
                have e641 : σ633 72 = (vup (vup (vup σ620 72 (σ620 12 48) 22) 12 48 ((σ620 12 48) + 1)) 12 50 0) 72 := vFm_at a636 rfl (by decide +kernel)
                have e642 : σ633 54 = σ620 54 := vFm_at a636 rfl (by decide +kernel)
                have h643 : zIw (σ633 54) (σ633 72) (σ633 12 46) (σ633 12 48) (σ633 12 47) (σ633 12 50) u495 := by
                  rw [e642, e641, e637, e638, e639, e640, show (vup (vup (vup σ620 72 (σ620 12 48) 22) 12 48 ((σ620 12 48) + 1)) 12 50 0) 72 = ful (σ620 72) (σ620 12 48) 22 from vup_f]
                  exact zIw_op h627 (by omega)
                refine And.intro (show 0 ≤ 1 ∧ 1 ≤ 1 from by omega) ?_
                refine And.intro (fun _ => ?_) (fun (q : 1 = 0) => absurd q (by decide))
                show zG E gJ1 md268 w gm_268 48 [(0, .inr (.inl 12)), (1, .inl 1)] σ633 K
                exact ih σ633 u495 (by omega) h643 a634 (by omega)
              · refine And.intro (fun (q : 1 = 0) => absurd q (by decide)) (fun _ => ?_)
                refine And.intro (show 0 ≤ (σ620 12 48) ∧ (σ620 12 48) < 45 from by omega) ?_
                refine And.intro (show Int.negSucc 2147483647 ≤ 21 ∧ 21 ≤ 2147483647 from rgm (by omega)) ?_
                refine And.intro (show -2147483648 ≤ ((σ620 12 48) + 1) ∧ ((σ620 12 48) + 1) ≤ 2147483647 from by omega) ?_
                refine And.intro (show 0 ≤ ((σ620 12 48) + 1) ∧ ((σ620 12 48) + 1) ≤ 45 from by omega) ?_
                refine And.intro (show 0 ≤ 0 ∧ 0 ≤ 1 from by omega) ?_
                refine And.intro (show 0 ≤ 0 ∧ 0 ≤ 1 from by omega) ?_
                refine And.intro (show vX (vup (vup (vup σ620 72 (σ620 12 48) 21) 12 48 ((σ620 12 48) + 1)) 12 50 0) from vX_fr x624 rfl rfl) (And.intro (by decide +kernel) (fun (σ644 : vS) (a645 : vX σ644) (a646 : vBd (zso E) gST zuq σ644) (a647 : vFm zuq md271 (vup (vup (vup σ620 72 (σ620 12 48) 21) 12 48 ((σ620 12 48) + 1)) 12 50 0) σ644) => ?_))
                have e648 : σ644 12 46 = σ620 12 46 := vFm_fl a647 (t := 12) (f := 46) rfl (by decide +kernel)
                have e649 : σ644 12 48 = (σ620 12 48) + 1 := vFm_fl a647 (t := 12) (f := 48) rfl (by decide +kernel)
                have e650 : σ644 12 47 = σ620 12 47 := vFm_fl a647 (t := 12) (f := 47) rfl (by decide +kernel)
                have e651 : σ644 12 50 = 0 := vFm_fl a647 (t := 12) (f := 50) rfl (by decide +kernel)
                have e652 : σ644 72 = (vup (vup (vup σ620 72 (σ620 12 48) 21) 12 48 ((σ620 12 48) + 1)) 12 50 0) 72 := vFm_at a647 rfl (by decide +kernel)
                have e653 : σ644 54 = σ620 54 := vFm_at a647 rfl (by decide +kernel)
                have h654 : zIw (σ644 54) (σ644 72) (σ644 12 46) (σ644 12 48) (σ644 12 47) (σ644 12 50) u495 := by
                  rw [e653, e652, e648, e649, e650, e651, show (vup (vup (vup σ620 72 (σ620 12 48) 21) 12 48 ((σ620 12 48) + 1)) 12 50 0) 72 = ful (σ620 72) (σ620 12 48) 21 from vup_f]
                  exact zIw_op h627 (by omega)
                refine And.intro (show 0 ≤ 1 ∧ 1 ≤ 1 from by omega) ?_
                refine And.intro (fun _ => ?_) (fun (q : 1 = 0) => absurd q (by decide))
                show zG E gJ1 md268 w gm_268 48 [(0, .inr (.inl 12)), (1, .inl 1)] σ644 K
                exact ih σ644 u495 (by omega) h654 a645 (by omega)
            · refine And.intro (fun (q : 1 = 0) => absurd q (by decide)) (fun _ => ?_)
              refine Exists.intro u495 (And.intro (And.intro a498 (by omega)) (fun (σ655 : vS) (a656 : zIv σ655 u495) (a657 : zfd σ496 σ655) (a658 : 21 = 22 → σ655 12 48 ≤ 0 ∨ ¬ zj (σ655 72) (σ655 12 48 - 1)) => ?_))
              have x659 : vX σ655 := vX_fr x500 (a657.1 52 (by decide) (by decide)) (a657.1 74 (by decide) (by decide))
              have e660 : σ655 12 47 = σ496 12 47 := a657.2 47 (by decide) (by decide) (by decide)
              have e661 : σ655 12 50 = σ496 12 50 := a657.2 50 (by decide) (by decide) (by decide)
              have e664 : σ655 12 50 = 1 := by omega
              have h662 : zIw (σ655 54) (σ655 72) (σ655 12 46) (σ655 12 48) (σ655 12 47) 1 u495 := by
                rw [← e664]
                exact a656
              have h663 := zIw_b h662 (by omega)
              have e665 : σ655 12 12 = σ496 12 12 := a657.2 12 (by decide) (by decide) (by decide)
              refine fun (z666 : Int) (h667 : z666 = 0 ∨ z666 = 1) => ?_
              rcases h667 with rfl | rfl
              · refine And.intro (fun _ => ?_) (fun (q : ¬ 0 = 0) => absurd q (by decide))
                refine And.intro (show 0 ≤ (σ655 12 48) ∧ (σ655 12 48) < 45 from by omega) ?_
                refine And.intro (show Int.negSucc 2147483647 ≤ 22 ∧ 22 ≤ 2147483647 from rgm (by omega)) ?_
                refine And.intro (show -2147483648 ≤ ((σ655 12 48) + 1) ∧ ((σ655 12 48) + 1) ≤ 2147483647 from by omega) ?_
                refine And.intro (show 0 ≤ ((σ655 12 48) + 1) ∧ ((σ655 12 48) + 1) ≤ 45 from by omega) ?_
                refine And.intro (show 0 ≤ 0 ∧ 0 ≤ 1 from by omega) ?_
                refine And.intro (show 0 ≤ 0 ∧ 0 ≤ 1 from by omega) ?_
                refine And.intro (show vX (vup (vup (vup σ655 72 (σ655 12 48) 22) 12 48 ((σ655 12 48) + 1)) 12 50 0) from vX_fr x659 rfl rfl) (And.intro (by decide +kernel) (fun (σ668 : vS) (a669 : vX σ668) (a670 : vBd (zso E) gST zuq σ668) (a671 : vFm zuq md271 (vup (vup (vup σ655 72 (σ655 12 48) 22) 12 48 ((σ655 12 48) + 1)) 12 50 0) σ668) => ?_))
                have e672 : σ668 12 46 = σ655 12 46 := vFm_fl a671 (t := 12) (f := 46) rfl (by decide +kernel)
                have e673 : σ668 12 48 = (σ655 12 48) + 1 := vFm_fl a671 (t := 12) (f := 48) rfl (by decide +kernel)
                have e674 : σ668 12 47 = σ655 12 47 := vFm_fl a671 (t := 12) (f := 47) rfl (by decide +kernel)
                have e675 : σ668 12 50 = 0 := vFm_fl a671 (t := 12) (f := 50) rfl (by decide +kernel)
                have e676 : σ668 72 = (vup (vup (vup σ655 72 (σ655 12 48) 22) 12 48 ((σ655 12 48) + 1)) 12 50 0) 72 := vFm_at a671 rfl (by decide +kernel)
                have e677 : σ668 54 = σ655 54 := vFm_at a671 rfl (by decide +kernel)
                have h678 : zIw (σ668 54) (σ668 72) (σ668 12 46) (σ668 12 48) (σ668 12 47) (σ668 12 50) u495 := by
                  rw [e677, e676, e672, e673, e674, e675, show (vup (vup (vup σ655 72 (σ655 12 48) 22) 12 48 ((σ655 12 48) + 1)) 12 50 0) 72 = ful (σ655 72) (σ655 12 48) 22 from vup_f]
                  exact zIw_op h662 (by omega)
                refine And.intro (show 0 ≤ 1 ∧ 1 ≤ 1 from by omega) ?_
                refine And.intro (fun _ => ?_) (fun (q : 1 = 0) => absurd q (by decide))
                show zG E gJ1 md268 w gm_268 48 [(0, .inr (.inl 12)), (1, .inl 1)] σ668 K
                exact ih σ668 u495 (by omega) h678 a669 (by omega)
              · refine And.intro (fun (q : 1 = 0) => absurd q (by decide)) (fun _ => ?_)
                refine And.intro (show 0 ≤ (σ655 12 48) ∧ (σ655 12 48) < 45 from by omega) ?_
                refine And.intro (show Int.negSucc 2147483647 ≤ 21 ∧ 21 ≤ 2147483647 from rgm (by omega)) ?_
                refine And.intro (show -2147483648 ≤ ((σ655 12 48) + 1) ∧ ((σ655 12 48) + 1) ≤ 2147483647 from by omega) ?_
                refine And.intro (show 0 ≤ ((σ655 12 48) + 1) ∧ ((σ655 12 48) + 1) ≤ 45 from by omega) ?_
                refine And.intro (show 0 ≤ 0 ∧ 0 ≤ 1 from by omega) ?_
                refine And.intro (show 0 ≤ 0 ∧ 0 ≤ 1 from by omega) ?_
                refine And.intro (show vX (vup (vup (vup σ655 72 (σ655 12 48) 21) 12 48 ((σ655 12 48) + 1)) 12 50 0) from vX_fr x659 rfl rfl) (And.intro (by decide +kernel) (fun (σ679 : vS) (a680 : vX σ679) (a681 : vBd (zso E) gST zuq σ679) (a682 : vFm zuq md271 (vup (vup (vup σ655 72 (σ655 12 48) 21) 12 48 ((σ655 12 48) + 1)) 12 50 0) σ679) => ?_))
                have e683 : σ679 12 46 = σ655 12 46 := vFm_fl a682 (t := 12) (f := 46) rfl (by decide +kernel)
                have e684 : σ679 12 48 = (σ655 12 48) + 1 := vFm_fl a682 (t := 12) (f := 48) rfl (by decide +kernel)
                have e685 : σ679 12 47 = σ655 12 47 := vFm_fl a682 (t := 12) (f := 47) rfl (by decide +kernel)
                have e686 : σ679 12 50 = 0 := vFm_fl a682 (t := 12) (f := 50) rfl (by decide +kernel)
                have e687 : σ679 72 = (vup (vup (vup σ655 72 (σ655 12 48) 21) 12 48 ((σ655 12 48) + 1)) 12 50 0) 72 := vFm_at a682 rfl (by decide +kernel)
                have e688 : σ679 54 = σ655 54 := vFm_at a682 rfl (by decide +kernel)
                have h689 : zIw (σ679 54) (σ679 72) (σ679 12 46) (σ679 12 48) (σ679 12 47) (σ679 12 50) u495 := by
                  rw [e688, e687, e683, e684, e685, e686, show (vup (vup (vup σ655 72 (σ655 12 48) 21) 12 48 ((σ655 12 48) + 1)) 12 50 0) 72 = ful (σ655 72) (σ655 12 48) 21 from vup_f]
                  exact zIw_op h662 (by omega)
                refine And.intro (show 0 ≤ 1 ∧ 1 ≤ 1 from by omega) ?_
                refine And.intro (fun _ => ?_) (fun (q : 1 = 0) => absurd q (by decide))
                show zG E gJ1 md268 w gm_268 48 [(0, .inr (.inl 12)), (1, .inl 1)] σ679 K
                exact ih σ679 u495 (by omega) h689 a680 (by omega)
      · refine Exists.intro u (And.intro (And.intro hI (by omega)) (fun (u690 : Int) (σ691 : vS) (a692 : u690 ≤ u) (a693 : zIv σ691 u690) (a694 : zfd σ σ691) => ?_))
        have x695 : vX σ691 := vX_fr hX (a694.1 52 (by decide) (by decide)) (a694.1 74 (by decide) (by decide))
        have e696 : σ691 12 47 = σ 12 47 := a694.2 47 (by decide) (by decide) (by decide)
        have e697 : σ691 12 50 = σ 12 50 := a694.2 50 (by decide) (by decide) (by decide)
        have e700 : σ691 12 12 = σ 12 12 := a694.2 12 (by decide) (by decide) (by decide)
        have f701 : 0 ≤ σ 12 12 ∧ σ 12 12 ≤ 940 := zf B hb (t := 12) (f := 12) (by decide +kernel)
        refine Exists.intro u690 (And.intro (And.intro a693 (by omega)) (fun (σ702 : vS) (a703 : zIv σ702 u690) (a704 : zfd σ691 σ702) (a705 : 22 = 22 → σ702 12 48 ≤ 0 ∨ ¬ zj (σ702 72) (σ702 12 48 - 1)) => ?_))
        have x706 : vX σ702 := vX_fr x695 (a704.1 52 (by decide) (by decide)) (a704.1 74 (by decide) (by decide))
        have e707 : σ702 12 47 = σ691 12 47 := a704.2 47 (by decide) (by decide) (by decide)
        have e708 : σ702 12 50 = σ691 12 50 := a704.2 50 (by decide) (by decide) (by decide)
        have e711 : σ702 12 50 = 1 := by omega
        have h709 : zIw (σ702 54) (σ702 72) (σ702 12 46) (σ702 12 48) (σ702 12 47) 1 u690 := by
          rw [← e711]
          exact a703
        have h710 := zIw_b h709 (by omega)
        have e712 : σ702 12 12 = σ691 12 12 := a704.2 12 (by decide) (by decide) (by decide)
        refine And.intro (fun (c713 : (σ702 12 48) ≤ 0) => ?_) (fun (c714 : 0 < (σ702 12 48)) => ?_)
        · show zG E gJ1 md268 w gm_268 48 [(0, .inr (.inl 12)), (1, .inl 0)] σ702 K
          exact z_sen2 B h271 h223 hK a703 (by omega) x706
        · refine And.intro (show Int.negSucc 2147483647 ≤ 1 ∧ 1 ≤ 2147483647 from rgm (by omega)) ?_
          refine And.intro (show Int.negSucc 2147483647 ≤ (σ702 12 12) ∧ (σ702 12 12) ≤ 2147483647 from rgm (by omega)) ?_
          refine And.intro (show 0 ≤ 0 ∧ 0 ≤ 1 from by omega) ?_
          refine fun (z715 : Int) (h716 : -2147483648 ≤ z715 ∧ z715 ≤ 2147483647) (e717 : z715 = vsub (-1) (σ702 12 12)) => ?_
          show K (some (.inl z715)) (vup (vup σ702 12 15 1) 12 16 (σ702 12 12))
          exact hK _ _ (by omega) (vX_fr x706 rfl rfl)
theorem z_sen0 (B : zB E) (h271 : zH E gJ1 (gm_271, 4) gc_271_0) (h223 : zH E gJ1 (gm_223, 3) gc_223_0) (hK : ∀ (z : Int) (σ2 : vS), -2147483648 ≤ z ∧ z ≤ 2147483647 → vX σ2 → K (some (.inl z)) σ2) (hX : vX σ) : zG E gJ1 md268 w gm_268 0 [(0, .inr (.inl 12))] σ K := by
  refine zbd (fun hb => zgo B (zS_cons (z_271s B h271) (zS_cons (z_conP B (m := 223) rfl h223 rfl rfl) (zS_cons (z_243 B) (zS_cons (z_231 B) (zS_cons (z_230 B) (zS_cons (z_228 B) (zS_cons (z_233 B) (zS_cons (z_207 B) zS_nil)))))))) [94, 130, 120, 136] [(48, [0, 1]), (146, [0, 2])] (fun m => Nat.beq m.2.2.2.2.1 167) (by decide +kernel) ?_)
  refine And.intro (show Int.negSucc 2147483647 ≤ 0 ∧ 0 ≤ 2147483647 from rgm (by omega)) ?_
  have f1 : 0 ≤ σ 12 2 ∧ σ 12 2 ≤ 940 := zf B hb (t := 12) (f := 2) (by decide +kernel)
  refine And.intro (show 0 ≤ (σ 12 2) ∧ (σ 12 2) ≤ 940 from by omega) ?_
  refine And.intro (show 0 ≤ 0 ∧ 0 ≤ 940 from by omega) ?_
  refine And.intro (show 0 ≤ 0 ∧ 0 ≤ 940 from by omega) ?_
  refine And.intro (show 0 ≤ 200 ∧ 200 ≤ 940 from by omega) ?_
  refine And.intro (show Int.negSucc 2147483647 ≤ 0 ∧ 0 ≤ 2147483647 from rgm (by omega)) ?_
  refine And.intro (show 0 ≤ 0 ∧ 0 ≤ 53 from by omega) ?_
  refine And.intro (show Int.negSucc 2147483647 ≤ 0 ∧ 0 ≤ 2147483647 from rgm (by omega)) ?_
  refine And.intro (show 0 ≤ 0 ∧ 0 ≤ 45 from by omega) ?_
  refine And.intro (show Int.negSucc 2147483647 ≤ 1 ∧ 1 ≤ 2147483647 from rgm (by omega)) ?_
  refine And.intro (show 0 ≤ 0 ∧ 0 ≤ 1 from by omega) ?_
  refine And.intro (show 0 ≤ 0 ∧ 0 ≤ 1 from by omega) ?_
  refine And.intro (show vX (vup (vup (vup (vup (vup (vup (vup (vup (vup (vup (vup σ 12 0 0) 12 3 (σ 12 2)) 12 2 0) 12 4 0) 12 5 200) 12 15 0) 12 46 0) 12 47 0) 12 48 0) 12 49 1) 12 50 0) from vX_fr hX rfl rfl) (And.intro (by decide +kernel) (fun (σ2 : vS) (a3 : vX σ2) (a4 : vBd (zso E) gST zuq σ2) (a5 : vFm zuq md271 (vup (vup (vup (vup (vup (vup (vup (vup (vup (vup (vup σ 12 0 0) 12 3 (σ 12 2)) 12 2 0) 12 4 0) 12 5 200) 12 15 0) 12 46 0) 12 47 0) 12 48 0) 12 49 1) 12 50 0) σ2) => ?_))
  have e6 : σ2 12 46 = 0 := vFm_fl a5 (t := 12) (f := 46) rfl (by decide +kernel)
  have e7 : σ2 12 48 = 0 := vFm_fl a5 (t := 12) (f := 48) rfl (by decide +kernel)
  have e8 : σ2 12 47 = 0 := vFm_fl a5 (t := 12) (f := 47) rfl (by decide +kernel)
  have e9 : σ2 12 50 = 0 := vFm_fl a5 (t := 12) (f := 50) rfl (by decide +kernel)
  have e10 : σ2 72 = σ 72 := vFm_at a5 rfl (by decide +kernel)
  have e11 : σ2 54 = σ 54 := vFm_at a5 rfl (by decide +kernel)
  show zG E gJ1 md268 w gm_268 48 [(0, .inr (.inl 12)), (1, .inl 1)] σ2 K
  have hF : zIv σ2 0 := by
    show zIw (σ2 54) (σ2 72) (σ2 12 46) (σ2 12 48) (σ2 12 47) (σ2 12 50) 0
    rw [e6, e7, e8, e9]
    exact zIw_0
  exact z_sen1 B h271 h223 hK 200 σ2 0 (by omega) hF a3 (by omega)
theorem zc_268 (B : zB E) (h271 : zH E gJ1 (gm_271, 4) gc_271_0) (h223 : zH E gJ1 (gm_223, 3) gc_223_0) : zH E gJ1 (gm_268, 3) gc_268_0 := by
  refine z_holds B (by decide) (fun w vs σ hv hX hb => ?_)
  have hv : vFits [.inr (.inl 12)] vs := hv
  rw [fits1 hv]
  exact z_sen0 B h271 h223 (fun z σ2 hz hX2 => ⟨hX2, _, List.mem_cons_self, ⟨hz.1, hz.2⟩⟩) hX
end Z10
