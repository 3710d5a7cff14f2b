/-! EXACT WALK: sentence, the whole -/
section Z10
variable {E : zE} {J : List aJ} {md : aMd} {w : va_W} {σ : vS} {K : vK}
theorem z_md268 {i : Int} (h : 221 ≤ i ∧ i < 402) : vMd md268 52 i := Or.inr (Or.inr (Or.inr (Or.inr (Or.inl ⟨rfl, h.1, h.2⟩))))
theorem z_r221 : ∀ q : Int × Int, rgAt (zrg 52) 221 = some q → q = (0, 53) := by
  intro q hq
  have e : rgAt (zrg 52) 221 = some (0, 53) := by decide +kernel
  rw [e] at hq
  cases hq
  rfl
theorem z_r222 : ((List.range 402).all fun j => Nat.blt j 222 || decide (rgAt (zrg 52) j = some (Int.negSucc 2147483647, Int.ofNat 2147483647))) = true := by decide +kernel
theorem z_rg1 {x : Int} (h : 0 ≤ x ∧ x ≤ 53) : vRg (zrg 52) 221 x := fun q hq => by
  rw [z_r221 q hq]
  exact h
theorem z_rg2 {i x : Int} (hi : 222 ≤ i ∧ i < 402) (h : -2147483648 ≤ x ∧ x ≤ 2147483647) : vRg (zrg 52) i x := fun q hq => by
  have := List.all_eq_true.mp z_r222 i.toNat (List.mem_range.mpr (by omega))
  rw [Bool.or_eq_true, decide_eq_true_eq] at this
  rcases this with h1 | h1
  · have : i.toNat < 222 := Nat.le_of_ble_eq_true h1
    omega
  · have hq : rgAt (zrg 52) i.toNat = some q := hq
    rw [h1] at hq
    cases hq
    exact h
theorem xdz_R {s R : Int → Int} {n : Nat} (h : ∀ j : Int, 0 ≤ j → j < 3 * (n : Int) → s (222 + j) = R j) : ∀ i : Nat, i ≤ n → xdz s 221 i = zdp R i
  | 0, _ => rfl
  | i + 1, hi => by
    show xdz s 221 i + _ = zdp R i + _
    have e := h (3 * (i : Int)) (by omega) (by omega)
    have e2 : (221 : Int) + 1 + 3 * (i : Int) = 222 + 3 * (i : Int) := by omega
    rw [xdz_R h i (by omega), e2, e]
theorem xVPz_R {s R : Int → Int} {c : Int} (h0 : s 221 = c) (h1 : 0 ≤ c) (h : ∀ j : Int, 0 ≤ j → j < 3 * c → s (222 + j) = R j) (hv : zVP R c.toNat) : xVPz s 221 := by
  intro i hi
  have e2 : (221 : Int) + 1 + 3 * (i : Int) = 222 + 3 * (i : Int) := by omega
  rw [e2, xdz_R (n := c.toNat) (R := R) (fun j j0 j1 => h j j0 (by omega)) i (by omega), h (3 * (i : Int)) (by omega) (by omega)]
  exact hv i (by omega)
theorem z_sen3 (B : zB E) (h271 : zH E gJ1 (gm_271, 4) gc_271_0) (h223 : zH E gJ1 (gm_223, 3) gc_223_0) {c : Int} (c0 : 0 ≤ c ∧ c ≤ 40) (hK : ∀ (z : Int) (σ2 : vS), -2147483648 ≤ z ∧ z ≤ 2147483647 → vX σ2 → σ2 12 2 = 0 → K (some (.inl z)) σ2) : ∀ (m : Nat) (i : Int) (σ : vS), 3 * c - i < (m : Int) → 0 ≤ i → i ≤ 3 * c → (xVPz (σ 74) 221 ∧ xVPz (σ 74) 623) → σ 12 46 = c → σ 52 221 = c → (∀ j : Int, 0 ≤ j → j < i → σ 52 (222 + j) = σ 54 j) → zVP (σ 54) c.toNat → (-2147483648 ≤ σ 12 47 ∧ σ 12 47 ≤ 2147483647) → σ 12 2 = 0 → zG E gJ1 md268 w gm_268 146 [(0, .inr (.inl 12)), (2, .inl i)] σ K := by
  intro m
  induction m with
  | zero => intro i σ h; omega
  | succ m ih =>
    intro i σ hm h0 h1 hX4 hc h221 hC hV ho hl
    refine zbd (fun hb => zgo B (zS_cons (z_271s B h271) (zS_cons (z_conP B (m := 223) rfl h223 rfl rfl) (zS_cons (z_243 B) (zS_cons (z_231 B) (zS_cons (z_230 B) (zS_cons (z_228 B) (zS_cons (z_233 B) (zS_cons (z_207 B) zS_nil)))))))) [94, 130, 120, 136] [(48, [0, 1]), (146, [0, 2])] (fun m => Nat.beq m.2.2.2.2.1 167) (by decide +kernel) ?_)
    have f1 : 0 ≤ σ 12 46 ∧ σ 12 46 ≤ 53 := zf B hb (t := 12) (f := 46) (by decide +kernel)
    refine And.intro (show -2147483648 ≤ (3 * (σ 12 46)) ∧ (3 * (σ 12 46)) ≤ 2147483647 from by omega) ?_
    refine And.intro (fun (c2 : (3 * (σ 12 46)) ≤ i) => ?_) (fun (c3 : i < (3 * (σ 12 46))) => ?_)
    · have f4 : (-2147483648) ≤ σ 12 47 ∧ σ 12 47 ≤ 2147483647 := zf B hb (t := 12) (f := 47) (by decide +kernel)
      show K (some (.inl (σ 12 47))) σ
      exact hK _ _ (by omega) ⟨xVPz_R h221 (by omega) (fun j j0 j1 => hC j j0 (by omega)) hV, hX4⟩ hl
    · refine And.intro (show -2147483648 ≤ (222 + i) ∧ (222 + i) ≤ 2147483647 from by omega) ?_
      refine And.intro (show 0 ≤ i ∧ i < 160 from by omega) ?_
      have f5 : (-2147483648) ≤ σ 54 i ∧ σ 54 i ≤ 2147483647 := zb B hb (t := 54) (a := 0) (n := 160) (i := i) (by decide +kernel) (by omega) (by omega)
      refine And.intro (show 0 ≤ (222 + i) ∧ (222 + i) < 402 from by omega) ?_
      refine And.intro (show vRg (zrg 52) (222 + i) (σ 54 i) from z_rg2 (by omega) (by omega)) ?_
      refine And.intro (show vMd md268 52 (222 + i) from z_md268 (by omega)) ?_
      refine And.intro (show -2147483648 ≤ (i + 1) ∧ (i + 1) ≤ 2147483647 from by omega) ?_
      show zG E gJ1 md268 w gm_268 146 [(0, .inr (.inl 12)), (2, .inl (i + 1))] (vup σ 52 (222 + i) (σ 54 i)) K
      refine ih (i + 1) _ (by omega) (by omega) (by omega) hX4 hc (show vup σ 52 (222 + i) (σ 54 i) 52 221 = c from by rw [vup_f, ful_ne (by omega)]; exact h221) (fun j j0 j1 => ?_) hV ho hl
      show vup σ 52 (222 + i) (σ 54 i) 52 (222 + j) = σ 54 j
      rw [vup_f]
      by_cases hj : j = i
      · subst hj
        rw [ful_at]
      · rw [ful_ne (by omega)]
        exact hC j j0 (by omega)
theorem z_sen2 (B : zB E) (h271 : zH E gJ1 (gm_271, 4) gc_271_0) (h223 : zH E gJ1 (gm_223, 3) gc_223_0) {u : Int} (hK : ∀ (z : Int) (σ2 : vS), -2147483648 ≤ z ∧ z ≤ 2147483647 → vX σ2 → σ2 12 2 = 0 → K (some (.inl z)) σ2) (hI : zIv σ u) (hw : 0 ≤ σ 12 50) (hX : vX σ) (hl : σ 12 2 = 0) : zG E gJ1 md268 w gm_268 48 [(0, .inr (.inl 12)), (1, .inl 0)] σ K := by
  have hbd := zIw_b hI hw
  have hV : zVP (σ 54) (σ 12 46).toNat := by
    obtain ⟨_, _, _, _, _, _, _, _, _, _, _, h⟩ := hI
    exact h
  refine zbd (fun hb => zgo B (zS_cons (z_271s B h271) (zS_cons (z_conP B (m := 223) rfl h223 rfl rfl) (zS_cons (z_243 B) (zS_cons (z_231 B) (zS_cons (z_230 B) (zS_cons (z_228 B) (zS_cons (z_233 B) (zS_cons (z_207 B) zS_nil)))))))) [94, 130, 120, 136] [(48, [0, 1]), (146, [0, 2])] (fun m => Nat.beq m.2.2.2.2.1 167) (by decide +kernel) ?_)
  refine And.intro (fun _ => ?_) (fun (q : ¬ 0 = 0) => absurd q (by decide))
  have f1 : 0 ≤ σ 12 46 ∧ σ 12 46 ≤ 53 := zf B hb (t := 12) (f := 46) (by decide +kernel)
  refine And.intro (show 0 ≤ 221 ∧ 221 < 402 from by omega) ?_
  refine And.intro (show vRg (zrg 52) 221 (σ 12 46) from z_rg1 (by omega)) ?_
  refine And.intro (show vMd md268 52 221 from z_md268 (by omega)) ?_
  show zG E gJ1 md268 w gm_268 146 [(0, .inr (.inl 12)), (2, .inl 0)] (vup σ 52 221 (σ 12 46)) K
  exact z_sen3 (c := σ 12 46) B h271 h223 hbd.2.1 hK 200 0 _ (by omega) (by omega) (by omega) hX.2 rfl (show vup σ 52 221 (σ 12 46) 52 221 = σ 12 46 from vup_eq) (fun j j0 j1 => by omega) hV (show -2147483648 ≤ σ 12 47 ∧ σ 12 47 ≤ 2147483647 from by omega) hl
theorem z_sen1 (B : zB E) (h271 : zH E gJ1 (gm_271, 4) gc_271_0) (h223 : zH E gJ1 (gm_223, 3) gc_223_0) (hK : ∀ (z : Int) (σ2 : vS), -2147483648 ≤ z ∧ z ≤ 2147483647 → vX σ2 → σ2 12 2 = 0 → K (some (.inl z)) σ2) : ∀ (m : Nat) (σ : vS) (u : Int), 4 * (20 - σ 12 47) + 2 * u + σ 12 50 < (m : Int) → zIv σ u → vX σ → (0 ≤ σ 12 50 ∧ σ 12 50 ≤ 1) → σ 12 2 = 0 → zG E gJ1 md268 w gm_268 48 [(0, .inr (.inl 12)), (1, .inl 1)] σ K := by
  intro m
  induction m with
  | zero =>
    intro σ u h hI _ hw _
    have := zIw_b hI hw.1
    omega
  | succ m ih =>
    intro σ u hm hI hX hw hl
    have hbd := zIw_b hI hw.1
    have hI0 : σ 12 50 = 0 → zIw (σ 54) (σ 72) (σ 12 46) (σ 12 48) (σ 12 47) 0 u := fun e => by
      have h := hI
      unfold zIv at h
      rw [e] at h
      exact h
    refine zbd (fun hb => zgo B (zS_cons (z_271s B h271) (zS_cons (z_conP B (m := 223) rfl h223 rfl rfl) (zS_cons (z_243 B) (zS_cons (z_231 B) (zS_cons (z_230 B) (zS_cons (z_228 B) (zS_cons (z_233 B) (zS_cons (z_207 B) zS_nil)))))))) [94, 130, 120, 136] [(48, [0, 1]), (146, [0, 2])] (fun m => Nat.beq m.2.2.2.2.1 167) (by decide +kernel) ?_)
    refine And.intro (fun (q : 1 = 0) => absurd q (by decide)) (fun _ => ?_)
    have f1 : 0 ≤ σ 12 50 ∧ σ 12 50 ≤ 1 := zf B hb (t := 12) (f := 50) (by decide +kernel)
    refine And.intro (fun (c2 : (σ 12 50) = 0) => ?_) (fun (c3 : ¬ (σ 12 50) = 0) => ?_)
    · refine And.intro (fun _ => ?_) (fun (q : ¬ (σ 12 50) = 0) => (by exfalso; omega))
      refine fun (z4 : Int) (h5 : z4 = 0 ∨ z4 = 1) => ?_
      rcases h5 with rfl | rfl
      · refine fun (z6 : Int) (h7 : z6 = 0 ∨ z6 = 1) => ?_
        rcases h7 with rfl | rfl
        · refine fun (z8 : Int) (h9 : -1 ≤ z8 ∧ z8 ≤ 7) => ?_
          refine And.intro (fun (q : ¬ 0 = 0) => absurd q (by decide)) (fun _ => ?_)
          refine And.intro (fun (q : ¬ 0 = 0) => absurd q (by decide)) (fun _ => ?_)
          refine And.intro (fun (c10 : 0 ≤ z8) => ?_) (fun (c11 : z8 < 0) => ?_)
          · have f12 : (-2147483648) ≤ σ 12 47 ∧ σ 12 47 ≤ 2147483647 := zf B hb (t := 12) (f := 47) (by decide +kernel)
            refine And.intro (fun (c13 : (σ 12 47) = 20) => ?_) (fun (c14 : ¬ (σ 12 47) = 20) => ?_)
            · refine And.intro (show Int.negSucc 2147483647 ≤ 4 ∧ 4 ≤ 2147483647 from rgm (by omega)) ?_
              have f15 : 0 ≤ σ 12 12 ∧ σ 12 12 ≤ 940 := zf B hb (t := 12) (f := 12) (by decide +kernel)
              refine And.intro (show Int.negSucc 2147483647 ≤ (σ 12 12) ∧ (σ 12 12) ≤ 2147483647 from rgm (by omega)) ?_
              refine And.intro (show 0 ≤ 0 ∧ 0 ≤ 1 from by omega) ?_
              refine And.intro (show 0 ≤ 0 ∧ 0 ≤ 1 from by omega) ?_
              refine And.intro (fun (q : ¬ 0 = 0) => absurd q (by decide)) (fun _ => ?_)
              refine fun (z16 : Int) (h17 : -2147483648 ≤ z16 ∧ z16 ≤ 2147483647) (e18 : z16 = vsub (-1) (σ 12 12)) => ?_
              show K (some (.inl z16)) (vup (vup σ 12 15 4) 12 16 (σ 12 12))
              exact hK _ _ (by omega) (vX_fr hX rfl rfl) (show σ 12 2 = 0 from by omega)
            · have f19 : (-2147483648) ≤ σ 12 49 ∧ σ 12 49 ≤ 2147483647 := zf B hb (t := 12) (f := 49) (by decide +kernel)
              refine And.intro (fun (c20 : (σ 12 49) ≤ 8) => ?_) (fun (c21 : 8 < (σ 12 49)) => ?_)
              · refine And.intro (show -2147483648 ≤ ((σ 12 47) + 1) ∧ ((σ 12 47) + 1) ≤ 2147483647 from by omega) ?_
                refine And.intro (show Int.negSucc 2147483647 ≤ ((σ 12 47) + 1) ∧ ((σ 12 47) + 1) ≤ 2147483647 from rgm (by omega)) ?_
                refine And.intro (show vX (vup σ 12 47 ((σ 12 47) + 1)) from vX_fr hX rfl rfl) (And.intro (by decide +kernel) (fun (σ22 : vS) (a23 : vX σ22) (a24 : vBd (zso E) gST zuq σ22) (a25 : vFm zuq md271 (vup σ 12 47 ((σ 12 47) + 1)) σ22) => ?_))
                have e26 : σ22 12 46 = σ 12 46 := vFm_fl a25 (t := 12) (f := 46) rfl (by decide +kernel)
                have e27 : σ22 12 48 = σ 12 48 := vFm_fl a25 (t := 12) (f := 48) rfl (by decide +kernel)
                have e28 : σ22 12 47 = (σ 12 47) + 1 := vFm_fl a25 (t := 12) (f := 47) rfl (by decide +kernel)
                have e29 : σ22 12 50 = σ 12 50 := vFm_fl a25 (t := 12) (f := 50) rfl (by decide +kernel)
                have e30 : σ22 12 2 = σ 12 2 := vFm_fl a25 (t := 12) (f := 2) rfl (by decide +kernel)
                have e31 : σ22 72 = σ 72 := vFm_at a25 rfl (by decide +kernel)
                have e32 : σ22 54 = σ 54 := vFm_at a25 rfl (by decide +kernel)
                have h33 : zIw (σ22 54) (σ22 72) (σ22 12 46) (σ22 12 48) (σ 12 47) 0 u := by rw [e32, e31, e26, e27]; exact (hI0 (by omega))
                refine And.intro (fun (q : ¬ 0 = 0) => absurd q (by decide)) (fun _ => ?_)
                refine And.intro (fun _ => ?_) (fun (q : ¬ 0 = 0) => absurd q (by decide))
                refine And.intro (show 0 ≤ 1 ∧ 1 ≤ 1 from by omega) ?_
                refine And.intro (show 0 ≤ 1 ∧ 1 ≤ 1 from by omega) ?_
                refine And.intro (fun (c34 : 2 ≤ z8) => ?_) (fun (c35 : z8 < 2) => ?_)
                · refine And.intro (fun (c36 : 4 ≤ z8) => ?_) (fun (c37 : z8 < 4) => ?_)
                  · have f38 : 0 ≤ σ22 12 11 ∧ σ22 12 11 ≤ 4 := zf B a24 (t := 12) (f := 11) (by decide +kernel)
                    refine And.intro (fun (c39 : ¬ (σ22 12 11) = 3) => ?_) (fun (c40 : (σ22 12 11) = 3) => ?_)
                    · refine And.intro (show Int.negSucc 2147483647 ≤ 1 ∧ 1 ≤ 2147483647 from rgm (by omega)) ?_
                      have f41 : 0 ≤ σ22 12 12 ∧ σ22 12 12 ≤ 940 := zf B a24 (t := 12) (f := 12) (by decide +kernel)
                      refine And.intro (show Int.negSucc 2147483647 ≤ (σ22 12 12) ∧ (σ22 12 12) ≤ 2147483647 from rgm (by omega)) ?_
                      refine And.intro (show 0 ≤ 0 ∧ 0 ≤ 1 from by omega) ?_
                      refine And.intro (show 0 ≤ 0 ∧ 0 ≤ 1 from by omega) ?_
                      refine And.intro (fun (q : ¬ 0 = 0) => absurd q (by decide)) (fun _ => ?_)
                      refine fun (z42 : Int) (h43 : -2147483648 ≤ z42 ∧ z42 ≤ 2147483647) (e44 : z42 = vsub (-1) (σ22 12 12)) => ?_
                      show K (some (.inl z42)) (vup (vup (vup σ22 12 50 1) 12 15 1) 12 16 (σ22 12 12))
                      exact hK _ _ (by omega) (vX_fr a23 rfl rfl) (show σ22 12 2 = 0 from by omega)
                    · have f45 : (-2147483648) ≤ σ22 12 14 ∧ σ22 12 14 ≤ 2147483647 := zf B a24 (t := 12) (f := 14) (by decide +kernel)
                      refine And.intro (fun (c46 : (σ22 12 14) < 60) => ?_) (fun (c47 : 60 ≤ (σ22 12 14)) => ?_)
                      · refine And.intro (show Int.negSucc 2147483647 ≤ 1 ∧ 1 ≤ 2147483647 from rgm (by omega)) ?_
                        have f48 : 0 ≤ σ22 12 12 ∧ σ22 12 12 ≤ 940 := zf B a24 (t := 12) (f := 12) (by decide +kernel)
                        refine And.intro (show Int.negSucc 2147483647 ≤ (σ22 12 12) ∧ (σ22 12 12) ≤ 2147483647 from rgm (by omega)) ?_
                        refine And.intro (show 0 ≤ 0 ∧ 0 ≤ 1 from by omega) ?_
                        refine And.intro (show 0 ≤ 0 ∧ 0 ≤ 1 from by omega) ?_
                        refine And.intro (fun (q : ¬ 0 = 0) => absurd q (by decide)) (fun _ => ?_)
                        refine fun (z49 : Int) (h50 : -2147483648 ≤ z49 ∧ z49 ≤ 2147483647) (e51 : z49 = vsub (-1) (σ22 12 12)) => ?_
                        show K (some (.inl z49)) (vup (vup (vup σ22 12 50 1) 12 15 1) 12 16 (σ22 12 12))
                        exact hK _ _ (by omega) (vX_fr a23 rfl rfl) (show σ22 12 2 = 0 from by omega)
                      · refine And.intro (fun (c52 : (σ22 12 14) ≤ 62) => ?_) (fun (c53 : 62 < (σ22 12 14)) => ?_)
                        · refine And.intro (show vX (vup σ22 12 50 1) from vX_fr a23 rfl rfl) (And.intro (by decide +kernel) (fun (σ54 : vS) (a55 : vX σ54) (a56 : vBd (zso E) gST zuq σ54) (a57 : vFm zuq md271 (vup σ22 12 50 1) σ54) => ?_))
                          have e58 : σ54 12 46 = σ22 12 46 := vFm_fl a57 (t := 12) (f := 46) rfl (by decide +kernel)
                          have e59 : σ54 12 48 = σ22 12 48 := vFm_fl a57 (t := 12) (f := 48) rfl (by decide +kernel)
                          have e60 : σ54 12 47 = σ22 12 47 := vFm_fl a57 (t := 12) (f := 47) rfl (by decide +kernel)
                          have e61 : σ54 12 50 = 1 := vFm_fl a57 (t := 12) (f := 50) rfl (by decide +kernel)
                          have e62 : σ54 12 2 = σ22 12 2 := vFm_fl a57 (t := 12) (f := 2) rfl (by decide +kernel)
                          have e63 : σ54 72 = σ22 72 := vFm_at a57 rfl (by decide +kernel)
                          have e64 : σ54 54 = σ22 54 := vFm_at a57 rfl (by decide +kernel)
                          have h65 : zIw (σ54 54) (σ54 72) (σ54 12 46) (σ54 12 48) (σ 12 47) 0 u := by rw [e64, e63, e58, e59]; exact h33
                          have f66 : 0 ≤ σ54 12 11 ∧ σ54 12 11 ≤ 4 := zf B a56 (t := 12) (f := 11) (by decide +kernel)
                          refine And.intro (fun (c67 : (σ54 12 11) = 2) => ?_) (fun (c68 : ¬ (σ54 12 11) = 2) => ?_)
                          · have f69 : (-2147483648) ≤ σ54 12 14 ∧ σ54 12 14 ≤ 2147483647 := zf B a56 (t := 12) (f := 14) (by decide +kernel)
                            have f70 : 0 ≤ σ54 12 46 ∧ σ54 12 46 ≤ 53 := zf B a56 (t := 12) (f := 46) (by decide +kernel)
                            refine And.intro (show -2147483648 ≤ (3 * (σ54 12 46)) ∧ (3 * (σ54 12 46)) ≤ 2147483647 from by omega) ?_
                            refine And.intro (show 0 ≤ (3 * (σ54 12 46)) ∧ (3 * (σ54 12 46)) < 160 from by omega) ?_
                            refine And.intro (show Int.negSucc 2147483647 ≤ z8 ∧ z8 ≤ 2147483647 from rgm (by omega)) ?_
                            refine And.intro (show -2147483648 ≤ (3 * (σ54 12 46)) ∧ (3 * (σ54 12 46)) ≤ 2147483647 from by omega) ?_
                            refine And.intro (show -2147483648 ≤ ((3 * (σ54 12 46)) + 1) ∧ ((3 * (σ54 12 46)) + 1) ≤ 2147483647 from by omega) ?_
                            refine And.intro (show 0 ≤ ((3 * (σ54 12 46)) + 1) ∧ ((3 * (σ54 12 46)) + 1) < 160 from by omega) ?_
                            refine And.intro (show Int.negSucc 2147483647 ≤ (σ22 12 14) ∧ (σ22 12 14) ≤ 2147483647 from rgm (by omega)) ?_
                            refine And.intro (show -2147483648 ≤ (3 * (σ54 12 46)) ∧ (3 * (σ54 12 46)) ≤ 2147483647 from by omega) ?_
                            refine And.intro (show -2147483648 ≤ ((3 * (σ54 12 46)) + 2) ∧ ((3 * (σ54 12 46)) + 2) ≤ 2147483647 from by omega) ?_
                            refine And.intro (show 0 ≤ ((3 * (σ54 12 46)) + 2) ∧ ((3 * (σ54 12 46)) + 2) < 160 from by omega) ?_
                            refine And.intro (show Int.negSucc 2147483647 ≤ (σ54 12 14) ∧ (σ54 12 14) ≤ 2147483647 from rgm (by omega)) ?_
                            refine And.intro (show -2147483648 ≤ ((σ54 12 46) + 1) ∧ ((σ54 12 46) + 1) ≤ 2147483647 from by omega) ?_
                            refine And.intro (show 0 ≤ ((σ54 12 46) + 1) ∧ ((σ54 12 46) + 1) ≤ 53 from by omega) ?_
                            refine And.intro (show vX (vup (vup (vup (vup σ54 54 (3 * (σ54 12 46)) z8) 54 ((3 * (σ54 12 46)) + 1) (σ22 12 14)) 54 ((3 * (σ54 12 46)) + 2) (σ54 12 14)) 12 46 ((σ54 12 46) + 1)) from vX_fr a55 rfl rfl) (And.intro (by decide +kernel) (fun (σ71 : vS) (a72 : vX σ71) (a73 : vBd (zso E) gST zuq σ71) (a74 : vFm zuq md271 (vup (vup (vup (vup σ54 54 (3 * (σ54 12 46)) z8) 54 ((3 * (σ54 12 46)) + 1) (σ22 12 14)) 54 ((3 * (σ54 12 46)) + 2) (σ54 12 14)) 12 46 ((σ54 12 46) + 1)) σ71) => ?_))
                            have e75 : σ71 12 46 = (σ54 12 46) + 1 := vFm_fl a74 (t := 12) (f := 46) rfl (by decide +kernel)
                            have e76 : σ71 12 48 = σ54 12 48 := vFm_fl a74 (t := 12) (f := 48) rfl (by decide +kernel)
                            have e77 : σ71 12 47 = σ54 12 47 := vFm_fl a74 (t := 12) (f := 47) rfl (by decide +kernel)
                            have e78 : σ71 12 50 = σ54 12 50 := vFm_fl a74 (t := 12) (f := 50) rfl (by decide +kernel)
                            have e79 : σ71 12 2 = σ54 12 2 := vFm_fl a74 (t := 12) (f := 2) rfl (by decide +kernel)
                            have e80 : σ71 72 = σ54 72 := vFm_at a74 rfl (by decide +kernel)
                            have e81 : σ71 54 = (vup (vup (vup (vup σ54 54 (3 * (σ54 12 46)) z8) 54 ((3 * (σ54 12 46)) + 1) (σ22 12 14)) 54 ((3 * (σ54 12 46)) + 2) (σ54 12 14)) 12 46 ((σ54 12 46) + 1)) 54 := vFm_at a74 rfl (by decide +kernel)
                            have h82 : zIw (σ71 54) (σ71 72) (σ71 12 46) (σ71 12 48) (σ 12 47 + 1) 1 u := by
                              rw [e81, e80, e75, e76, show (vup (vup (vup (vup σ54 54 (3 * (σ54 12 46)) z8) 54 ((3 * (σ54 12 46)) + 1) (σ22 12 14)) 54 ((3 * (σ54 12 46)) + 2) (σ54 12 14)) 12 46 ((σ54 12 46) + 1)) 54 = ful (ful (ful (σ54 54) (3 * (σ54 12 46)) z8) ((3 * (σ54 12 46)) + 1) (σ22 12 14)) ((3 * (σ54 12 46)) + 2) (σ54 12 14) from vup3]
                              exact zIw_leaf h65 ful3_lo ful3_at (by omega) (by omega)
                            refine And.intro (show 0 ≤ 1 ∧ 1 ≤ 1 from by omega) ?_
                            refine And.intro (fun _ => ?_) (fun (q : 1 = 0) => absurd q (by decide))
                            show zG E gJ1 md268 w gm_268 48 [(0, .inr (.inl 12)), (1, .inl 1)] σ71 K
                            have hF : zIv σ71 u := by
                              show zIw (σ71 54) (σ71 72) (σ71 12 46) (σ71 12 48) (σ71 12 47) (σ71 12 50) u
                              rw [show σ71 12 47 = σ 12 47 + 1 from by omega, show σ71 12 50 = 1 from by omega]
                              exact h82
                            exact ih σ71 u (by omega) hF a72 (by omega) (by omega)
                          · refine And.intro (show Int.negSucc 2147483647 ≤ 1 ∧ 1 ≤ 2147483647 from rgm (by omega)) ?_
                            have f83 : 0 ≤ σ54 12 12 ∧ σ54 12 12 ≤ 940 := zf B a56 (t := 12) (f := 12) (by decide +kernel)
                            refine And.intro (show Int.negSucc 2147483647 ≤ (σ54 12 12) ∧ (σ54 12 12) ≤ 2147483647 from rgm (by omega)) ?_
                            refine And.intro (show 0 ≤ 0 ∧ 0 ≤ 1 from by omega) ?_
                            refine And.intro (show 0 ≤ 0 ∧ 0 ≤ 1 from by omega) ?_
                            refine And.intro (fun (q : ¬ 0 = 0) => absurd q (by decide)) (fun _ => ?_)
                            refine fun (z84 : Int) (h85 : -2147483648 ≤ z84 ∧ z84 ≤ 2147483647) (e86 : z84 = vsub (-1) (σ54 12 12)) => ?_
                            show K (some (.inl z84)) (vup (vup σ54 12 15 1) 12 16 (σ54 12 12))
                            exact hK _ _ (by omega) (vX_fr a55 rfl rfl) (show σ54 12 2 = 0 from by omega)
                        · refine And.intro (show Int.negSucc 2147483647 ≤ 1 ∧ 1 ≤ 2147483647 from rgm (by omega)) ?_
                          have f87 : 0 ≤ σ22 12 12 ∧ σ22 12 12 ≤ 940 := zf B a24 (t := 12) (f := 12) (by decide +kernel)
                          refine And.intro (show Int.negSucc 2147483647 ≤ (σ22 12 12) ∧ (σ22 12 12) ≤ 2147483647 from rgm (by omega)) ?_
                          refine And.intro (show 0 ≤ 0 ∧ 0 ≤ 1 from by omega) ?_
                          refine And.intro (show 0 ≤ 0 ∧ 0 ≤ 1 from by omega) ?_
                          refine And.intro (fun (q : ¬ 0 = 0) => absurd q (by decide)) (fun _ => ?_)
                          refine fun (z88 : Int) (h89 : -2147483648 ≤ z88 ∧ z88 ≤ 2147483647) (e90 : z88 = vsub (-1) (σ22 12 12)) => ?_
                          show K (some (.inl z88)) (vup (vup (vup σ22 12 50 1) 12 15 1) 12 16 (σ22 12 12))
                          exact hK _ _ (by omega) (vX_fr a23 rfl rfl) (show σ22 12 2 = 0 from by omega)
                  · refine And.intro ⟨rfl, trivial⟩ (And.intro (show vX (vup σ22 12 50 1) from vX_fr a23 rfl rfl) (fun (z91 : Int) (a92 : 0 ≤ z91 ∧ z91 ≤ 1) => ?_))
                    refine And.intro (fun (c93 : ¬ z91 = 0) => ?_) (fun (c94 : z91 = 0) => ?_)
                    · refine And.intro (fun (c95 : ¬ z8 = 2) => ?_) (fun (c96 : z8 = 2) => ?_)
                      · refine And.intro (show 0 ≤ 0 ∧ 0 < 402 from by omega) ?_
                        have f97 : 0 ≤ σ22 52 0 ∧ σ22 52 0 ≤ 6 := zb B a24 (t := 52) (a := 0) (n := 2) (i := 0) (by decide +kernel) (by omega) (by omega)
                        refine And.intro (show (0 ≤ 0 ∧ 0 ≤ 6) ∧ (0 ≤ (σ22 52 0) ∧ (σ22 52 0) ≤ 12) from by omega) (fun (z98 : Int) (h99 : -1 ≤ z98 ∧ z98 ≤ 11) => ?_)
                        refine And.intro (fun (c100 : 0 ≤ z98) => ?_) (fun (c101 : z98 < 0) => ?_)
                        · have f102 : 0 ≤ σ22 12 46 ∧ σ22 12 46 ≤ 53 := zf B a24 (t := 12) (f := 46) (by decide +kernel)
                          refine And.intro (show -2147483648 ≤ (3 * (σ22 12 46)) ∧ (3 * (σ22 12 46)) ≤ 2147483647 from by omega) ?_
                          refine And.intro (show 0 ≤ (3 * (σ22 12 46)) ∧ (3 * (σ22 12 46)) < 160 from by omega) ?_
                          refine And.intro (show Int.negSucc 2147483647 ≤ z8 ∧ z8 ≤ 2147483647 from rgm (by omega)) ?_
                          refine And.intro (show -2147483648 ≤ (3 * (σ22 12 46)) ∧ (3 * (σ22 12 46)) ≤ 2147483647 from by omega) ?_
                          refine And.intro (show -2147483648 ≤ ((3 * (σ22 12 46)) + 1) ∧ ((3 * (σ22 12 46)) + 1) ≤ 2147483647 from by omega) ?_
                          refine And.intro (show 0 ≤ ((3 * (σ22 12 46)) + 1) ∧ ((3 * (σ22 12 46)) + 1) < 160 from by omega) ?_
                          refine And.intro (show Int.negSucc 2147483647 ≤ 0 ∧ 0 ≤ 2147483647 from rgm (by omega)) ?_
                          refine And.intro (show -2147483648 ≤ (3 * (σ22 12 46)) ∧ (3 * (σ22 12 46)) ≤ 2147483647 from by omega) ?_
                          refine And.intro (show -2147483648 ≤ ((3 * (σ22 12 46)) + 2) ∧ ((3 * (σ22 12 46)) + 2) ≤ 2147483647 from by omega) ?_
                          refine And.intro (show 0 ≤ ((3 * (σ22 12 46)) + 2) ∧ ((3 * (σ22 12 46)) + 2) < 160 from by omega) ?_
                          refine And.intro (show Int.negSucc 2147483647 ≤ z98 ∧ z98 ≤ 2147483647 from rgm (by omega)) ?_
                          refine And.intro (show -2147483648 ≤ ((σ22 12 46) + 1) ∧ ((σ22 12 46) + 1) ≤ 2147483647 from by omega) ?_
                          refine And.intro (show 0 ≤ ((σ22 12 46) + 1) ∧ ((σ22 12 46) + 1) ≤ 53 from by omega) ?_
                          refine And.intro (show vX (vup (vup (vup (vup (vup σ22 12 50 1) 54 (3 * (σ22 12 46)) z8) 54 ((3 * (σ22 12 46)) + 1) 0) 54 ((3 * (σ22 12 46)) + 2) z98) 12 46 ((σ22 12 46) + 1)) from vX_fr a23 rfl rfl) (And.intro (by decide +kernel) (fun (σ103 : vS) (a104 : vX σ103) (a105 : vBd (zso E) gST zuq σ103) (a106 : vFm zuq md271 (vup (vup (vup (vup (vup σ22 12 50 1) 54 (3 * (σ22 12 46)) z8) 54 ((3 * (σ22 12 46)) + 1) 0) 54 ((3 * (σ22 12 46)) + 2) z98) 12 46 ((σ22 12 46) + 1)) σ103) => ?_))
                          have e107 : σ103 12 46 = (σ22 12 46) + 1 := vFm_fl a106 (t := 12) (f := 46) rfl (by decide +kernel)
                          have e108 : σ103 12 48 = σ22 12 48 := vFm_fl a106 (t := 12) (f := 48) rfl (by decide +kernel)
                          have e109 : σ103 12 47 = σ22 12 47 := vFm_fl a106 (t := 12) (f := 47) rfl (by decide +kernel)
                          have e110 : σ103 12 50 = 1 := vFm_fl a106 (t := 12) (f := 50) rfl (by decide +kernel)
                          have e111 : σ103 12 2 = σ22 12 2 := vFm_fl a106 (t := 12) (f := 2) rfl (by decide +kernel)
                          have e112 : σ103 72 = σ22 72 := vFm_at a106 rfl (by decide +kernel)
                          have e113 : σ103 54 = (vup (vup (vup (vup (vup σ22 12 50 1) 54 (3 * (σ22 12 46)) z8) 54 ((3 * (σ22 12 46)) + 1) 0) 54 ((3 * (σ22 12 46)) + 2) z98) 12 46 ((σ22 12 46) + 1)) 54 := vFm_at a106 rfl (by decide +kernel)
                          have h114 : zIw (σ103 54) (σ103 72) (σ103 12 46) (σ103 12 48) (σ 12 47 + 1) 1 u := by
                            rw [e113, e112, e107, e108, show (vup (vup (vup (vup (vup σ22 12 50 1) 54 (3 * (σ22 12 46)) z8) 54 ((3 * (σ22 12 46)) + 1) 0) 54 ((3 * (σ22 12 46)) + 2) z98) 12 46 ((σ22 12 46) + 1)) 54 = ful (ful (ful (σ22 54) (3 * (σ22 12 46)) z8) ((3 * (σ22 12 46)) + 1) 0) ((3 * (σ22 12 46)) + 2) z98 from vup3]
                            exact zIw_leaf h33 ful3_lo ful3_at (by omega) (by omega)
                          refine And.intro (show 0 ≤ 1 ∧ 1 ≤ 1 from by omega) ?_
                          refine And.intro (fun _ => ?_) (fun (q : 1 = 0) => absurd q (by decide))
                          show zG E gJ1 md268 w gm_268 48 [(0, .inr (.inl 12)), (1, .inl 1)] σ103 K
                          have hF : zIv σ103 u := by
                            show zIw (σ103 54) (σ103 72) (σ103 12 46) (σ103 12 48) (σ103 12 47) (σ103 12 50) u
                            rw [show σ103 12 47 = σ 12 47 + 1 from by omega, show σ103 12 50 = 1 from by omega]
                            exact h114
                          exact ih σ103 u (by omega) hF a104 (by omega) (by omega)
                        · refine And.intro (show Int.negSucc 2147483647 ≤ 3 ∧ 3 ≤ 2147483647 from rgm (by omega)) ?_
                          have f115 : 0 ≤ σ22 12 12 ∧ σ22 12 12 ≤ 940 := zf B a24 (t := 12) (f := 12) (by decide +kernel)
                          refine And.intro (show Int.negSucc 2147483647 ≤ (σ22 12 12) ∧ (σ22 12 12) ≤ 2147483647 from rgm (by omega)) ?_
                          refine And.intro (show 0 ≤ 0 ∧ 0 ≤ 1 from by omega) ?_
                          refine And.intro (show 0 ≤ 0 ∧ 0 ≤ 1 from by omega) ?_
                          refine And.intro (fun (q : ¬ 0 = 0) => absurd q (by decide)) (fun _ => ?_)
                          refine fun (z116 : Int) (h117 : -2147483648 ≤ z116 ∧ z116 ≤ 2147483647) (e118 : z116 = vsub (-1) (σ22 12 12)) => ?_
                          show K (some (.inl z116)) (vup (vup (vup σ22 12 50 1) 12 15 3) 12 16 (σ22 12 12))
                          exact hK _ _ (by omega) (vX_fr a23 rfl rfl) (show σ22 12 2 = 0 from by omega)
                      · refine And.intro (show 0 ≤ 1 ∧ 1 < 402 from by omega) ?_
                        have f119 : 0 ≤ σ22 52 1 ∧ σ22 52 1 ≤ 6 := zb B a24 (t := 52) (a := 0) (n := 2) (i := 1) (by decide +kernel) (by omega) (by omega)
                        refine And.intro (show (0 ≤ 6 ∧ 6 ≤ 6) ∧ (0 ≤ (σ22 52 1) ∧ (σ22 52 1) ≤ 12) from by omega) (fun (z120 : Int) (h121 : -1 ≤ z120 ∧ z120 ≤ 11) => ?_)
                        refine And.intro (fun (c122 : 0 ≤ z120) => ?_) (fun (c123 : z120 < 0) => ?_)
                        · have f124 : 0 ≤ σ22 12 46 ∧ σ22 12 46 ≤ 53 := zf B a24 (t := 12) (f := 46) (by decide +kernel)
                          refine And.intro (show -2147483648 ≤ (3 * (σ22 12 46)) ∧ (3 * (σ22 12 46)) ≤ 2147483647 from by omega) ?_
                          refine And.intro (show 0 ≤ (3 * (σ22 12 46)) ∧ (3 * (σ22 12 46)) < 160 from by omega) ?_
                          refine And.intro (show Int.negSucc 2147483647 ≤ z8 ∧ z8 ≤ 2147483647 from rgm (by omega)) ?_
                          refine And.intro (show -2147483648 ≤ (3 * (σ22 12 46)) ∧ (3 * (σ22 12 46)) ≤ 2147483647 from by omega) ?_
                          refine And.intro (show -2147483648 ≤ ((3 * (σ22 12 46)) + 1) ∧ ((3 * (σ22 12 46)) + 1) ≤ 2147483647 from by omega) ?_
                          refine And.intro (show 0 ≤ ((3 * (σ22 12 46)) + 1) ∧ ((3 * (σ22 12 46)) + 1) < 160 from by omega) ?_
                          refine And.intro (show Int.negSucc 2147483647 ≤ 0 ∧ 0 ≤ 2147483647 from rgm (by omega)) ?_
                          refine And.intro (show -2147483648 ≤ (3 * (σ22 12 46)) ∧ (3 * (σ22 12 46)) ≤ 2147483647 from by omega) ?_
                          refine And.intro (show -2147483648 ≤ ((3 * (σ22 12 46)) + 2) ∧ ((3 * (σ22 12 46)) + 2) ≤ 2147483647 from by omega) ?_
                          refine And.intro (show 0 ≤ ((3 * (σ22 12 46)) + 2) ∧ ((3 * (σ22 12 46)) + 2) < 160 from by omega) ?_
                          refine And.intro (show Int.negSucc 2147483647 ≤ z120 ∧ z120 ≤ 2147483647 from rgm (by omega)) ?_
                          refine And.intro (show -2147483648 ≤ ((σ22 12 46) + 1) ∧ ((σ22 12 46) + 1) ≤ 2147483647 from by omega) ?_
                          refine And.intro (show 0 ≤ ((σ22 12 46) + 1) ∧ ((σ22 12 46) + 1) ≤ 53 from by omega) ?_
                          refine And.intro (show vX (vup (vup (vup (vup (vup σ22 12 50 1) 54 (3 * (σ22 12 46)) z8) 54 ((3 * (σ22 12 46)) + 1) 0) 54 ((3 * (σ22 12 46)) + 2) z120) 12 46 ((σ22 12 46) + 1)) from vX_fr a23 rfl rfl) (And.intro (by decide +kernel) (fun (σ125 : vS) (a126 : vX σ125) (a127 : vBd (zso E) gST zuq σ125) (a128 : vFm zuq md271 (vup (vup (vup (vup (vup σ22 12 50 1) 54 (3 * (σ22 12 46)) z8) 54 ((3 * (σ22 12 46)) + 1) 0) 54 ((3 * (σ22 12 46)) + 2) z120) 12 46 ((σ22 12 46) + 1)) σ125) => ?_))
                          have e129 : σ125 12 46 = (σ22 12 46) + 1 := vFm_fl a128 (t := 12) (f := 46) rfl (by decide +kernel)
                          have e130 : σ125 12 48 = σ22 12 48 := vFm_fl a128 (t := 12) (f := 48) rfl (by decide +kernel)
                          have e131 : σ125 12 47 = σ22 12 47 := vFm_fl a128 (t := 12) (f := 47) rfl (by decide +kernel)
                          have e132 : σ125 12 50 = 1 := vFm_fl a128 (t := 12) (f := 50) rfl (by decide +kernel)
                          have e133 : σ125 12 2 = σ22 12 2 := vFm_fl a128 (t := 12) (f := 2) rfl (by decide +kernel)
                          have e134 : σ125 72 = σ22 72 := vFm_at a128 rfl (by decide +kernel)
                          have e135 : σ125 54 = (vup (vup (vup (vup (vup σ22 12 50 1) 54 (3 * (σ22 12 46)) z8) 54 ((3 * (σ22 12 46)) + 1) 0) 54 ((3 * (σ22 12 46)) + 2) z120) 12 46 ((σ22 12 46) + 1)) 54 := vFm_at a128 rfl (by decide +kernel)
                          have h136 : zIw (σ125 54) (σ125 72) (σ125 12 46) (σ125 12 48) (σ 12 47 + 1) 1 u := by
                            rw [e135, e134, e129, e130, show (vup (vup (vup (vup (vup σ22 12 50 1) 54 (3 * (σ22 12 46)) z8) 54 ((3 * (σ22 12 46)) + 1) 0) 54 ((3 * (σ22 12 46)) + 2) z120) 12 46 ((σ22 12 46) + 1)) 54 = ful (ful (ful (σ22 54) (3 * (σ22 12 46)) z8) ((3 * (σ22 12 46)) + 1) 0) ((3 * (σ22 12 46)) + 2) z120 from vup3]
                            exact zIw_leaf h33 ful3_lo ful3_at (by omega) (by omega)
                          refine And.intro (show 0 ≤ 1 ∧ 1 ≤ 1 from by omega) ?_
                          refine And.intro (fun _ => ?_) (fun (q : 1 = 0) => absurd q (by decide))
                          show zG E gJ1 md268 w gm_268 48 [(0, .inr (.inl 12)), (1, .inl 1)] σ125 K
                          have hF : zIv σ125 u := by
                            show zIw (σ125 54) (σ125 72) (σ125 12 46) (σ125 12 48) (σ125 12 47) (σ125 12 50) u
                            rw [show σ125 12 47 = σ 12 47 + 1 from by omega, show σ125 12 50 = 1 from by omega]
                            exact h136
                          exact ih σ125 u (by omega) hF a126 (by omega) (by omega)
                        · refine And.intro (show Int.negSucc 2147483647 ≤ 3 ∧ 3 ≤ 2147483647 from rgm (by omega)) ?_
                          have f137 : 0 ≤ σ22 12 12 ∧ σ22 12 12 ≤ 940 := zf B a24 (t := 12) (f := 12) (by decide +kernel)
                          refine And.intro (show Int.negSucc 2147483647 ≤ (σ22 12 12) ∧ (σ22 12 12) ≤ 2147483647 from rgm (by omega)) ?_
                          refine And.intro (show 0 ≤ 0 ∧ 0 ≤ 1 from by omega) ?_
                          refine And.intro (show 0 ≤ 0 ∧ 0 ≤ 1 from by omega) ?_
                          refine And.intro (fun (q : ¬ 0 = 0) => absurd q (by decide)) (fun _ => ?_)
                          refine fun (z138 : Int) (h139 : -2147483648 ≤ z138 ∧ z138 ≤ 2147483647) (e140 : z138 = vsub (-1) (σ22 12 12)) => ?_
                          show K (some (.inl z138)) (vup (vup (vup σ22 12 50 1) 12 15 3) 12 16 (σ22 12 12))
                          exact hK _ _ (by omega) (vX_fr a23 rfl rfl) (show σ22 12 2 = 0 from by omega)
                    · refine And.intro (show Int.negSucc 2147483647 ≤ 1 ∧ 1 ≤ 2147483647 from rgm (by omega)) ?_
                      have f141 : 0 ≤ σ22 12 12 ∧ σ22 12 12 ≤ 940 := zf B a24 (t := 12) (f := 12) (by decide +kernel)
                      refine And.intro (show Int.negSucc 2147483647 ≤ (σ22 12 12) ∧ (σ22 12 12) ≤ 2147483647 from rgm (by omega)) ?_
                      refine And.intro (show 0 ≤ 0 ∧ 0 ≤ 1 from by omega) ?_
                      refine And.intro (show 0 ≤ 0 ∧ 0 ≤ 1 from by omega) ?_
                      refine And.intro (fun (q : ¬ 0 = 0) => absurd q (by decide)) (fun _ => ?_)
                      refine fun (z142 : Int) (h143 : -2147483648 ≤ z142 ∧ z142 ≤ 2147483647) (e144 : z142 = vsub (-1) (σ22 12 12)) => ?_
                      show K (some (.inl z142)) (vup (vup (vup σ22 12 50 1) 12 15 1) 12 16 (σ22 12 12))
                      exact hK _ _ (by omega) (vX_fr a23 rfl rfl) (show σ22 12 2 = 0 from by omega)
                · have f145 : 0 ≤ σ22 12 46 ∧ σ22 12 46 ≤ 53 := zf B a24 (t := 12) (f := 46) (by decide +kernel)
                  refine And.intro (show -2147483648 ≤ (3 * (σ22 12 46)) ∧ (3 * (σ22 12 46)) ≤ 2147483647 from by omega) ?_
                  refine And.intro (show 0 ≤ (3 * (σ22 12 46)) ∧ (3 * (σ22 12 46)) < 160 from by omega) ?_
                  refine And.intro (show Int.negSucc 2147483647 ≤ z8 ∧ z8 ≤ 2147483647 from rgm (by omega)) ?_
                  refine And.intro (show -2147483648 ≤ (3 * (σ22 12 46)) ∧ (3 * (σ22 12 46)) ≤ 2147483647 from by omega) ?_
                  refine And.intro (show -2147483648 ≤ ((3 * (σ22 12 46)) + 1) ∧ ((3 * (σ22 12 46)) + 1) ≤ 2147483647 from by omega) ?_
                  refine And.intro (show 0 ≤ ((3 * (σ22 12 46)) + 1) ∧ ((3 * (σ22 12 46)) + 1) < 160 from by omega) ?_
                  refine And.intro (show Int.negSucc 2147483647 ≤ 0 ∧ 0 ≤ 2147483647 from rgm (by omega)) ?_
                  refine And.intro (show -2147483648 ≤ (3 * (σ22 12 46)) ∧ (3 * (σ22 12 46)) ≤ 2147483647 from by omega) ?_
                  refine And.intro (show -2147483648 ≤ ((3 * (σ22 12 46)) + 2) ∧ ((3 * (σ22 12 46)) + 2) ≤ 2147483647 from by omega) ?_
                  refine And.intro (show 0 ≤ ((3 * (σ22 12 46)) + 2) ∧ ((3 * (σ22 12 46)) + 2) < 160 from by omega) ?_
                  refine And.intro (show Int.negSucc 2147483647 ≤ 0 ∧ 0 ≤ 2147483647 from rgm (by omega)) ?_
                  refine And.intro (show -2147483648 ≤ ((σ22 12 46) + 1) ∧ ((σ22 12 46) + 1) ≤ 2147483647 from by omega) ?_
                  refine And.intro (show 0 ≤ ((σ22 12 46) + 1) ∧ ((σ22 12 46) + 1) ≤ 53 from by omega) ?_
                  refine And.intro (show 0 ≤ 1 ∧ 1 ≤ 1 from by omega) ?_
                  refine And.intro (fun _ => ?_) (fun (q : 1 = 0) => absurd q (by decide))
                  show zG E gJ1 md268 w gm_268 48 [(0, .inr (.inl 12)), (1, .inl 1)] (vup (vup (vup (vup (vup σ22 12 50 1) 54 (3 * (σ22 12 46)) z8) 54 ((3 * (σ22 12 46)) + 1) 0) 54 ((3 * (σ22 12 46)) + 2) 0) 12 46 ((σ22 12 46) + 1)) K
                  have hF : zIv (vup (vup (vup (vup (vup σ22 12 50 1) 54 (3 * (σ22 12 46)) z8) 54 ((3 * (σ22 12 46)) + 1) 0) 54 ((3 * (σ22 12 46)) + 2) 0) 12 46 ((σ22 12 46) + 1)) u := by
                    show zIw ((vup (vup (vup (vup (vup σ22 12 50 1) 54 (3 * (σ22 12 46)) z8) 54 ((3 * (σ22 12 46)) + 1) 0) 54 ((3 * (σ22 12 46)) + 2) 0) 12 46 ((σ22 12 46) + 1)) 54) (σ22 72) (σ22 12 46 + 1) (σ22 12 48) (σ22 12 47) 1 u
                    rw [show σ22 12 47 = σ 12 47 + 1 from by omega, show (vup (vup (vup (vup (vup σ22 12 50 1) 54 (3 * (σ22 12 46)) z8) 54 ((3 * (σ22 12 46)) + 1) 0) 54 ((3 * (σ22 12 46)) + 2) 0) 12 46 ((σ22 12 46) + 1)) 54 = ful (ful (ful (σ22 54) (3 * (σ22 12 46)) z8) ((3 * (σ22 12 46)) + 1) 0) ((3 * (σ22 12 46)) + 2) 0 from vup3]
                    exact zIw_leaf h33 ful3_lo ful3_at (by omega) (by omega)
                  exact ih (vup (vup (vup (vup (vup σ22 12 50 1) 54 (3 * (σ22 12 46)) z8) 54 ((3 * (σ22 12 46)) + 1) 0) 54 ((3 * (σ22 12 46)) + 2) 0) 12 46 ((σ22 12 46) + 1)) u (show 4 * (20 - σ22 12 47) + 2 * u + 1 < (m : Int) from by omega) hF (vX_fr a23 rfl rfl) (show (0 : Int) ≤ 1 ∧ (1 : Int) ≤ 1 from by omega) (show σ22 12 2 = 0 from by omega)
              · refine And.intro (show Int.negSucc 2147483647 ≤ 4 ∧ 4 ≤ 2147483647 from rgm (by omega)) ?_
                have f146 : 0 ≤ σ 12 12 ∧ σ 12 12 ≤ 940 := zf B hb (t := 12) (f := 12) (by decide +kernel)
                refine And.intro (show Int.negSucc 2147483647 ≤ (σ 12 12) ∧ (σ 12 12) ≤ 2147483647 from rgm (by omega)) ?_
                refine And.intro (show 0 ≤ 0 ∧ 0 ≤ 1 from by omega) ?_
                refine And.intro (show 0 ≤ 0 ∧ 0 ≤ 1 from by omega) ?_
                refine And.intro (fun (q : ¬ 0 = 0) => absurd q (by decide)) (fun _ => ?_)
                refine fun (z147 : Int) (h148 : -2147483648 ≤ z147 ∧ z147 ≤ 2147483647) (e149 : z147 = vsub (-1) (σ 12 12)) => ?_
                show K (some (.inl z147)) (vup (vup σ 12 15 4) 12 16 (σ 12 12))
                exact hK _ _ (by omega) (vX_fr hX rfl rfl) (show σ 12 2 = 0 from by omega)
          · refine And.intro (show Int.negSucc 2147483647 ≤ 1 ∧ 1 ≤ 2147483647 from rgm (by omega)) ?_
            have f150 : 0 ≤ σ 12 12 ∧ σ 12 12 ≤ 940 := zf B hb (t := 12) (f := 12) (by decide +kernel)
            refine And.intro (show Int.negSucc 2147483647 ≤ (σ 12 12) ∧ (σ 12 12) ≤ 2147483647 from rgm (by omega)) ?_
            refine And.intro (show 0 ≤ 0 ∧ 0 ≤ 1 from by omega) ?_
            refine And.intro (show 0 ≤ 0 ∧ 0 ≤ 1 from by omega) ?_
            refine And.intro (fun (q : ¬ 0 = 0) => absurd q (by decide)) (fun _ => ?_)
            refine fun (z151 : Int) (h152 : -2147483648 ≤ z151 ∧ z151 ≤ 2147483647) (e153 : z151 = vsub (-1) (σ 12 12)) => ?_
            show K (some (.inl z151)) (vup (vup σ 12 15 1) 12 16 (σ 12 12))
            exact hK _ _ (by omega) (vX_fr hX rfl rfl) (show σ 12 2 = 0 from by omega)
        · refine fun (z154 : Int) (h155 : -1 ≤ z154 ∧ z154 ≤ 7) => ?_
          refine And.intro (fun (q : ¬ 0 = 0) => absurd q (by decide)) (fun _ => ?_)
          refine And.intro (fun _ => ?_) (fun (q : 1 = 0) => absurd q (by decide))
          have f156 : (-2147483648) ≤ σ 12 47 ∧ σ 12 47 ≤ 2147483647 := zf B hb (t := 12) (f := 47) (by decide +kernel)
          refine And.intro (fun (c157 : (σ 12 47) = 20) => ?_) (fun (c158 : ¬ (σ 12 47) = 20) => ?_)
          · refine And.intro (show Int.negSucc 2147483647 ≤ 4 ∧ 4 ≤ 2147483647 from rgm (by omega)) ?_
            have f159 : 0 ≤ σ 12 12 ∧ σ 12 12 ≤ 940 := zf B hb (t := 12) (f := 12) (by decide +kernel)
            refine And.intro (show Int.negSucc 2147483647 ≤ (σ 12 12) ∧ (σ 12 12) ≤ 2147483647 from rgm (by omega)) ?_
            refine And.intro (show 0 ≤ 0 ∧ 0 ≤ 1 from by omega) ?_
            refine And.intro (show 0 ≤ 0 ∧ 0 ≤ 1 from by omega) ?_
            refine And.intro (fun (q : ¬ 0 = 0) => absurd q (by decide)) (fun _ => ?_)
            refine fun (z160 : Int) (h161 : -2147483648 ≤ z160 ∧ z160 ≤ 2147483647) (e162 : z160 = vsub (-1) (σ 12 12)) => ?_
            show K (some (.inl z160)) (vup (vup σ 12 15 4) 12 16 (σ 12 12))
            exact hK _ _ (by omega) (vX_fr hX rfl rfl) (show σ 12 2 = 0 from by omega)
          · have f163 : (-2147483648) ≤ σ 12 49 ∧ σ 12 49 ≤ 2147483647 := zf B hb (t := 12) (f := 49) (by decide +kernel)
            refine And.intro (fun (c164 : (σ 12 49) ≤ 8) => ?_) (fun (c165 : 8 < (σ 12 49)) => ?_)
            · refine And.intro (show -2147483648 ≤ ((σ 12 47) + 1) ∧ ((σ 12 47) + 1) ≤ 2147483647 from by omega) ?_
              refine And.intro (show Int.negSucc 2147483647 ≤ ((σ 12 47) + 1) ∧ ((σ 12 47) + 1) ≤ 2147483647 from rgm (by omega)) ?_
              refine And.intro (show vX (vup σ 12 47 ((σ 12 47) + 1)) from vX_fr hX rfl rfl) (And.intro (by decide +kernel) (fun (σ166 : vS) (a167 : vX σ166) (a168 : vBd (zso E) gST zuq σ166) (a169 : vFm zuq md271 (vup σ 12 47 ((σ 12 47) + 1)) σ166) => ?_))
              have e170 : σ166 12 46 = σ 12 46 := vFm_fl a169 (t := 12) (f := 46) rfl (by decide +kernel)
              have e171 : σ166 12 48 = σ 12 48 := vFm_fl a169 (t := 12) (f := 48) rfl (by decide +kernel)
              have e172 : σ166 12 47 = (σ 12 47) + 1 := vFm_fl a169 (t := 12) (f := 47) rfl (by decide +kernel)
              have e173 : σ166 12 50 = σ 12 50 := vFm_fl a169 (t := 12) (f := 50) rfl (by decide +kernel)
              have e174 : σ166 12 2 = σ 12 2 := vFm_fl a169 (t := 12) (f := 2) rfl (by decide +kernel)
              have e175 : σ166 72 = σ 72 := vFm_at a169 rfl (by decide +kernel)
              have e176 : σ166 54 = σ 54 := vFm_at a169 rfl (by decide +kernel)
              have h177 : zIw (σ166 54) (σ166 72) (σ166 12 46) (σ166 12 48) (σ 12 47) 0 u := by rw [e176, e175, e170, e171]; exact (hI0 (by omega))
              refine And.intro (fun (q : ¬ 0 = 0) => absurd q (by decide)) (fun _ => ?_)
              refine And.intro (fun (q : 1 = 0) => absurd q (by decide)) (fun _ => ?_)
              have f178 : 0 ≤ σ166 12 48 ∧ σ166 12 48 ≤ 45 := zf B a168 (t := 12) (f := 48) (by decide +kernel)
              refine And.intro (fun _ => ?_) (fun (q : ¬ 0 = 0) => absurd q (by decide))
              refine And.intro (show 0 ≤ (σ166 12 48) ∧ (σ166 12 48) < 45 from by omega) ?_
              refine And.intro (show Int.negSucc 2147483647 ≤ 23 ∧ 23 ≤ 2147483647 from rgm (by omega)) ?_
              refine And.intro (show -2147483648 ≤ ((σ166 12 48) + 1) ∧ ((σ166 12 48) + 1) ≤ 2147483647 from by omega) ?_
              refine And.intro (show 0 ≤ ((σ166 12 48) + 1) ∧ ((σ166 12 48) + 1) ≤ 45 from by omega) ?_
              have f179 : (-2147483648) ≤ σ166 12 49 ∧ σ166 12 49 ≤ 2147483647 := zf B a168 (t := 12) (f := 49) (by decide +kernel)
              refine fun (z180 : Int) (h181 : -2147483648 ≤ z180 ∧ z180 ≤ 2147483647) (e182 : z180 = vadd (σ166 12 49) 1) => ?_
              refine And.intro (show Int.negSucc 2147483647 ≤ z180 ∧ z180 ≤ 2147483647 from rgm (by omega)) ?_
              refine And.intro (show 0 ≤ 1 ∧ 1 ≤ 1 from by omega) ?_
              refine And.intro (fun _ => ?_) (fun (q : 1 = 0) => absurd q (by decide))
              show zG E gJ1 md268 w gm_268 48 [(0, .inr (.inl 12)), (1, .inl 1)] (vup (vup (vup σ166 72 (σ166 12 48) 23) 12 48 ((σ166 12 48) + 1)) 12 49 z180) K
              have hF : zIv (vup (vup (vup σ166 72 (σ166 12 48) 23) 12 48 ((σ166 12 48) + 1)) 12 49 z180) (u + 1) := by
                show zIw (σ166 54) ((vup (vup (vup σ166 72 (σ166 12 48) 23) 12 48 ((σ166 12 48) + 1)) 12 49 z180) 72) (σ166 12 46) (σ166 12 48 + 1) (σ166 12 47) (σ166 12 50) (u + 1)
                rw [show σ166 12 47 = σ 12 47 + 1 from by omega, show σ166 12 50 = 0 from by omega, show (vup (vup (vup σ166 72 (σ166 12 48) 23) 12 48 ((σ166 12 48) + 1)) 12 49 z180) 72 = ful (σ166 72) (σ166 12 48) 23 from vup_f]
                exact zIw_push h177 (by omega) (by omega)
              exact ih (vup (vup (vup σ166 72 (σ166 12 48) 23) 12 48 ((σ166 12 48) + 1)) 12 49 z180) (u + 1) (show 4 * (20 - σ166 12 47) + 2 * (u + 1) + σ166 12 50 < (m : Int) from by omega) hF (vX_fr a167 rfl rfl) (show 0 ≤ σ166 12 50 ∧ σ166 12 50 ≤ 1 from by omega) (show σ166 12 2 = 0 from by omega)
            · refine And.intro (show Int.negSucc 2147483647 ≤ 4 ∧ 4 ≤ 2147483647 from rgm (by omega)) ?_
              have f183 : 0 ≤ σ 12 12 ∧ σ 12 12 ≤ 940 := zf B hb (t := 12) (f := 12) (by decide +kernel)
              refine And.intro (show Int.negSucc 2147483647 ≤ (σ 12 12) ∧ (σ 12 12) ≤ 2147483647 from rgm (by omega)) ?_
              refine And.intro (show 0 ≤ 0 ∧ 0 ≤ 1 from by omega) ?_
              refine And.intro (show 0 ≤ 0 ∧ 0 ≤ 1 from by omega) ?_
              refine And.intro (fun (q : ¬ 0 = 0) => absurd q (by decide)) (fun _ => ?_)
              refine fun (z184 : Int) (h185 : -2147483648 ≤ z184 ∧ z184 ≤ 2147483647) (e186 : z184 = vsub (-1) (σ 12 12)) => ?_
              show K (some (.inl z184)) (vup (vup σ 12 15 4) 12 16 (σ 12 12))
              exact hK _ _ (by omega) (vX_fr hX rfl rfl) (show σ 12 2 = 0 from by omega)
      · refine fun (z187 : Int) (h188 : z187 = 0 ∨ z187 = 1) => ?_
        rcases h188 with rfl | rfl
        · refine fun (z189 : Int) (h190 : -1 ≤ z189 ∧ z189 ≤ 7) => ?_
          refine And.intro (fun _ => ?_) (fun (q : 1 = 0) => absurd q (by decide))
          have f191 : (-2147483648) ≤ σ 12 47 ∧ σ 12 47 ≤ 2147483647 := zf B hb (t := 12) (f := 47) (by decide +kernel)
          refine And.intro (fun (c192 : (σ 12 47) = 20) => ?_) (fun (c193 : ¬ (σ 12 47) = 20) => ?_)
          · refine And.intro (show Int.negSucc 2147483647 ≤ 4 ∧ 4 ≤ 2147483647 from rgm (by omega)) ?_
            have f194 : 0 ≤ σ 12 12 ∧ σ 12 12 ≤ 940 := zf B hb (t := 12) (f := 12) (by decide +kernel)
            refine And.intro (show Int.negSucc 2147483647 ≤ (σ 12 12) ∧ (σ 12 12) ≤ 2147483647 from rgm (by omega)) ?_
            refine And.intro (show 0 ≤ 0 ∧ 0 ≤ 1 from by omega) ?_
            refine And.intro (show 0 ≤ 0 ∧ 0 ≤ 1 from by omega) ?_
            refine And.intro (fun (q : ¬ 0 = 0) => absurd q (by decide)) (fun _ => ?_)
            refine fun (z195 : Int) (h196 : -2147483648 ≤ z195 ∧ z195 ≤ 2147483647) (e197 : z195 = vsub (-1) (σ 12 12)) => ?_
            show K (some (.inl z195)) (vup (vup σ 12 15 4) 12 16 (σ 12 12))
            exact hK _ _ (by omega) (vX_fr hX rfl rfl) (show σ 12 2 = 0 from by omega)
          · have f198 : (-2147483648) ≤ σ 12 49 ∧ σ 12 49 ≤ 2147483647 := zf B hb (t := 12) (f := 49) (by decide +kernel)
            refine And.intro (fun (c199 : (σ 12 49) ≤ 8) => ?_) (fun (c200 : 8 < (σ 12 49)) => ?_)
            · refine And.intro (show -2147483648 ≤ ((σ 12 47) + 1) ∧ ((σ 12 47) + 1) ≤ 2147483647 from by omega) ?_
              refine And.intro (show Int.negSucc 2147483647 ≤ ((σ 12 47) + 1) ∧ ((σ 12 47) + 1) ≤ 2147483647 from rgm (by omega)) ?_
              refine And.intro (show vX (vup σ 12 47 ((σ 12 47) + 1)) from vX_fr hX rfl rfl) (And.intro (by decide +kernel) (fun (σ201 : vS) (a202 : vX σ201) (a203 : vBd (zso E) gST zuq σ201) (a204 : vFm zuq md271 (vup σ 12 47 ((σ 12 47) + 1)) σ201) => ?_))
              have e205 : σ201 12 46 = σ 12 46 := vFm_fl a204 (t := 12) (f := 46) rfl (by decide +kernel)
              have e206 : σ201 12 48 = σ 12 48 := vFm_fl a204 (t := 12) (f := 48) rfl (by decide +kernel)
              have e207 : σ201 12 47 = (σ 12 47) + 1 := vFm_fl a204 (t := 12) (f := 47) rfl (by decide +kernel)
              have e208 : σ201 12 50 = σ 12 50 := vFm_fl a204 (t := 12) (f := 50) rfl (by decide +kernel)
              have e209 : σ201 12 2 = σ 12 2 := vFm_fl a204 (t := 12) (f := 2) rfl (by decide +kernel)
              have e210 : σ201 72 = σ 72 := vFm_at a204 rfl (by decide +kernel)
              have e211 : σ201 54 = σ 54 := vFm_at a204 rfl (by decide +kernel)
              have h212 : zIw (σ201 54) (σ201 72) (σ201 12 46) (σ201 12 48) (σ 12 47) 0 u := by rw [e211, e210, e205, e206]; exact (hI0 (by omega))
              refine And.intro (fun _ => ?_) (fun (q : 1 = 0) => absurd q (by decide))
              have f213 : 0 ≤ σ201 12 48 ∧ σ201 12 48 ≤ 45 := zf B a203 (t := 12) (f := 48) (by decide +kernel)
              refine And.intro (fun (q : 1 = 0) => absurd q (by decide)) (fun _ => ?_)
              refine And.intro (show 0 ≤ (σ201 12 48) ∧ (σ201 12 48) < 45 from by omega) ?_
              refine And.intro (show Int.negSucc 2147483647 ≤ 20 ∧ 20 ≤ 2147483647 from rgm (by omega)) ?_
              refine And.intro (show -2147483648 ≤ ((σ201 12 48) + 1) ∧ ((σ201 12 48) + 1) ≤ 2147483647 from by omega) ?_
              refine And.intro (show 0 ≤ ((σ201 12 48) + 1) ∧ ((σ201 12 48) + 1) ≤ 45 from by omega) ?_
              have f214 : (-2147483648) ≤ σ201 12 49 ∧ σ201 12 49 ≤ 2147483647 := zf B a203 (t := 12) (f := 49) (by decide +kernel)
              refine fun (z215 : Int) (h216 : -2147483648 ≤ z215 ∧ z215 ≤ 2147483647) (e217 : z215 = vadd (σ201 12 49) 1) => ?_
              refine And.intro (show Int.negSucc 2147483647 ≤ z215 ∧ z215 ≤ 2147483647 from rgm (by omega)) ?_
              refine And.intro (show 0 ≤ 1 ∧ 1 ≤ 1 from by omega) ?_
              refine And.intro (fun _ => ?_) (fun (q : 1 = 0) => absurd q (by decide))
              show zG E gJ1 md268 w gm_268 48 [(0, .inr (.inl 12)), (1, .inl 1)] (vup (vup (vup σ201 72 (σ201 12 48) 20) 12 48 ((σ201 12 48) + 1)) 12 49 z215) K
              have hF : zIv (vup (vup (vup σ201 72 (σ201 12 48) 20) 12 48 ((σ201 12 48) + 1)) 12 49 z215) (u + 1) := by
                show zIw (σ201 54) ((vup (vup (vup σ201 72 (σ201 12 48) 20) 12 48 ((σ201 12 48) + 1)) 12 49 z215) 72) (σ201 12 46) (σ201 12 48 + 1) (σ201 12 47) (σ201 12 50) (u + 1)
                rw [show σ201 12 47 = σ 12 47 + 1 from by omega, show σ201 12 50 = 0 from by omega, show (vup (vup (vup σ201 72 (σ201 12 48) 20) 12 48 ((σ201 12 48) + 1)) 12 49 z215) 72 = ful (σ201 72) (σ201 12 48) 20 from vup_f]
                exact zIw_push h212 (by omega) (by omega)
              exact ih (vup (vup (vup σ201 72 (σ201 12 48) 20) 12 48 ((σ201 12 48) + 1)) 12 49 z215) (u + 1) (show 4 * (20 - σ201 12 47) + 2 * (u + 1) + σ201 12 50 < (m : Int) from by omega) hF (vX_fr a202 rfl rfl) (show 0 ≤ σ201 12 50 ∧ σ201 12 50 ≤ 1 from by omega) (show σ201 12 2 = 0 from by omega)
            · refine And.intro (show Int.negSucc 2147483647 ≤ 4 ∧ 4 ≤ 2147483647 from rgm (by omega)) ?_
              have f218 : 0 ≤ σ 12 12 ∧ σ 12 12 ≤ 940 := zf B hb (t := 12) (f := 12) (by decide +kernel)
              refine And.intro (show Int.negSucc 2147483647 ≤ (σ 12 12) ∧ (σ 12 12) ≤ 2147483647 from rgm (by omega)) ?_
              refine And.intro (show 0 ≤ 0 ∧ 0 ≤ 1 from by omega) ?_
              refine And.intro (show 0 ≤ 0 ∧ 0 ≤ 1 from by omega) ?_
              refine And.intro (fun (q : ¬ 0 = 0) => absurd q (by decide)) (fun _ => ?_)
              refine fun (z219 : Int) (h220 : -2147483648 ≤ z219 ∧ z219 ≤ 2147483647) (e221 : z219 = vsub (-1) (σ 12 12)) => ?_
              show K (some (.inl z219)) (vup (vup σ 12 15 4) 12 16 (σ 12 12))
              exact hK _ _ (by omega) (vX_fr hX rfl rfl) (show σ 12 2 = 0 from by omega)
        · refine fun (z222 : Int) (h223 : -1 ≤ z222 ∧ z222 ≤ 7) => ?_
          refine And.intro (fun _ => ?_) (fun (q : 1 = 0) => absurd q (by decide))
          have f224 : (-2147483648) ≤ σ 12 47 ∧ σ 12 47 ≤ 2147483647 := zf B hb (t := 12) (f := 47) (by decide +kernel)
          refine And.intro (fun (c225 : (σ 12 47) = 20) => ?_) (fun (c226 : ¬ (σ 12 47) = 20) => ?_)
          · refine And.intro (show Int.negSucc 2147483647 ≤ 4 ∧ 4 ≤ 2147483647 from rgm (by omega)) ?_
            have f227 : 0 ≤ σ 12 12 ∧ σ 12 12 ≤ 940 := zf B hb (t := 12) (f := 12) (by decide +kernel)
            refine And.intro (show Int.negSucc 2147483647 ≤ (σ 12 12) ∧ (σ 12 12) ≤ 2147483647 from rgm (by omega)) ?_
            refine And.intro (show 0 ≤ 0 ∧ 0 ≤ 1 from by omega) ?_
            refine And.intro (show 0 ≤ 0 ∧ 0 ≤ 1 from by omega) ?_
            refine And.intro (fun (q : ¬ 0 = 0) => absurd q (by decide)) (fun _ => ?_)
            refine fun (z228 : Int) (h229 : -2147483648 ≤ z228 ∧ z228 ≤ 2147483647) (e230 : z228 = vsub (-1) (σ 12 12)) => ?_
            show K (some (.inl z228)) (vup (vup σ 12 15 4) 12 16 (σ 12 12))
            exact hK _ _ (by omega) (vX_fr hX rfl rfl) (show σ 12 2 = 0 from by omega)
          · have f231 : (-2147483648) ≤ σ 12 49 ∧ σ 12 49 ≤ 2147483647 := zf B hb (t := 12) (f := 49) (by decide +kernel)
            refine And.intro (fun (c232 : (σ 12 49) ≤ 8) => ?_) (fun (c233 : 8 < (σ 12 49)) => ?_)
            · refine And.intro (show -2147483648 ≤ ((σ 12 47) + 1) ∧ ((σ 12 47) + 1) ≤ 2147483647 from by omega) ?_
              refine And.intro (show Int.negSucc 2147483647 ≤ ((σ 12 47) + 1) ∧ ((σ 12 47) + 1) ≤ 2147483647 from rgm (by omega)) ?_
              refine And.intro (show vX (vup σ 12 47 ((σ 12 47) + 1)) from vX_fr hX rfl rfl) (And.intro (by decide +kernel) (fun (σ234 : vS) (a235 : vX σ234) (a236 : vBd (zso E) gST zuq σ234) (a237 : vFm zuq md271 (vup σ 12 47 ((σ 12 47) + 1)) σ234) => ?_))
              have e238 : σ234 12 46 = σ 12 46 := vFm_fl a237 (t := 12) (f := 46) rfl (by decide +kernel)
              have e239 : σ234 12 48 = σ 12 48 := vFm_fl a237 (t := 12) (f := 48) rfl (by decide +kernel)
              have e240 : σ234 12 47 = (σ 12 47) + 1 := vFm_fl a237 (t := 12) (f := 47) rfl (by decide +kernel)
              have e241 : σ234 12 50 = σ 12 50 := vFm_fl a237 (t := 12) (f := 50) rfl (by decide +kernel)
              have e242 : σ234 12 2 = σ 12 2 := vFm_fl a237 (t := 12) (f := 2) rfl (by decide +kernel)
              have e243 : σ234 72 = σ 72 := vFm_at a237 rfl (by decide +kernel)
              have e244 : σ234 54 = σ 54 := vFm_at a237 rfl (by decide +kernel)
              have h245 : zIw (σ234 54) (σ234 72) (σ234 12 46) (σ234 12 48) (σ 12 47) 0 u := by rw [e244, e243, e238, e239]; exact (hI0 (by omega))
              refine And.intro (fun _ => ?_) (fun (q : 1 = 0) => absurd q (by decide))
              have f246 : 0 ≤ σ234 12 48 ∧ σ234 12 48 ≤ 45 := zf B a236 (t := 12) (f := 48) (by decide +kernel)
              refine And.intro (fun (q : 1 = 0) => absurd q (by decide)) (fun _ => ?_)
              refine And.intro (show 0 ≤ (σ234 12 48) ∧ (σ234 12 48) < 45 from by omega) ?_
              refine And.intro (show Int.negSucc 2147483647 ≤ 20 ∧ 20 ≤ 2147483647 from rgm (by omega)) ?_
              refine And.intro (show -2147483648 ≤ ((σ234 12 48) + 1) ∧ ((σ234 12 48) + 1) ≤ 2147483647 from by omega) ?_
              refine And.intro (show 0 ≤ ((σ234 12 48) + 1) ∧ ((σ234 12 48) + 1) ≤ 45 from by omega) ?_
              have f247 : (-2147483648) ≤ σ234 12 49 ∧ σ234 12 49 ≤ 2147483647 := zf B a236 (t := 12) (f := 49) (by decide +kernel)
              refine fun (z248 : Int) (h249 : -2147483648 ≤ z248 ∧ z248 ≤ 2147483647) (e250 : z248 = vadd (σ234 12 49) 1) => ?_
              refine And.intro (show Int.negSucc 2147483647 ≤ z248 ∧ z248 ≤ 2147483647 from rgm (by omega)) ?_
              refine And.intro (show 0 ≤ 1 ∧ 1 ≤ 1 from by omega) ?_
              refine And.intro (fun _ => ?_) (fun (q : 1 = 0) => absurd q (by decide))
              show zG E gJ1 md268 w gm_268 48 [(0, .inr (.inl 12)), (1, .inl 1)] (vup (vup (vup σ234 72 (σ234 12 48) 20) 12 48 ((σ234 12 48) + 1)) 12 49 z248) K
              have hF : zIv (vup (vup (vup σ234 72 (σ234 12 48) 20) 12 48 ((σ234 12 48) + 1)) 12 49 z248) (u + 1) := by
                show zIw (σ234 54) ((vup (vup (vup σ234 72 (σ234 12 48) 20) 12 48 ((σ234 12 48) + 1)) 12 49 z248) 72) (σ234 12 46) (σ234 12 48 + 1) (σ234 12 47) (σ234 12 50) (u + 1)
                rw [show σ234 12 47 = σ 12 47 + 1 from by omega, show σ234 12 50 = 0 from by omega, show (vup (vup (vup σ234 72 (σ234 12 48) 20) 12 48 ((σ234 12 48) + 1)) 12 49 z248) 72 = ful (σ234 72) (σ234 12 48) 20 from vup_f]
                exact zIw_push h245 (by omega) (by omega)
              exact ih (vup (vup (vup σ234 72 (σ234 12 48) 20) 12 48 ((σ234 12 48) + 1)) 12 49 z248) (u + 1) (show 4 * (20 - σ234 12 47) + 2 * (u + 1) + σ234 12 50 < (m : Int) from by omega) hF (vX_fr a235 rfl rfl) (show 0 ≤ σ234 12 50 ∧ σ234 12 50 ≤ 1 from by omega) (show σ234 12 2 = 0 from by omega)
            · refine And.intro (show Int.negSucc 2147483647 ≤ 4 ∧ 4 ≤ 2147483647 from rgm (by omega)) ?_
              have f251 : 0 ≤ σ 12 12 ∧ σ 12 12 ≤ 940 := zf B hb (t := 12) (f := 12) (by decide +kernel)
              refine And.intro (show Int.negSucc 2147483647 ≤ (σ 12 12) ∧ (σ 12 12) ≤ 2147483647 from rgm (by omega)) ?_
              refine And.intro (show 0 ≤ 0 ∧ 0 ≤ 1 from by omega) ?_
              refine And.intro (show 0 ≤ 0 ∧ 0 ≤ 1 from by omega) ?_
              refine And.intro (fun (q : ¬ 0 = 0) => absurd q (by decide)) (fun _ => ?_)
              refine fun (z252 : Int) (h253 : -2147483648 ≤ z252 ∧ z252 ≤ 2147483647) (e254 : z252 = vsub (-1) (σ 12 12)) => ?_
              show K (some (.inl z252)) (vup (vup σ 12 15 4) 12 16 (σ 12 12))
              exact hK _ _ (by omega) (vX_fr hX rfl rfl) (show σ 12 2 = 0 from by omega)
    · have f255 : 0 ≤ σ 12 11 ∧ σ 12 11 ≤ 4 := zf B hb (t := 12) (f := 11) (by decide +kernel)
      refine And.intro (fun (c256 : ¬ (σ 12 11) = 0) => ?_) (fun (c257 : (σ 12 11) = 0) => ?_)
      · refine And.intro (fun (c258 : (σ 12 50) = 0) => ?_) (fun (c259 : ¬ (σ 12 50) = 0) => ?_)
        · refine fun (z260 : Int) (h261 : z260 = 0 ∨ z260 = 1) => ?_
          rcases h261 with rfl | rfl
          · refine fun (z262 : Int) (h263 : z262 = 0 ∨ z262 = 1) => ?_
            rcases h263 with rfl | rfl
            · refine fun (z264 : Int) (h265 : -1 ≤ z264 ∧ z264 ≤ 7) => ?_
              refine And.intro (fun (q : ¬ 0 = 0) => absurd q (by decide)) (fun _ => ?_)
              refine And.intro (fun (q : ¬ 0 = 0) => absurd q (by decide)) (fun _ => ?_)
              refine And.intro (fun (c266 : 0 ≤ z264) => ?_) (fun (c267 : z264 < 0) => ?_)
              · have f268 : (-2147483648) ≤ σ 12 47 ∧ σ 12 47 ≤ 2147483647 := zf B hb (t := 12) (f := 47) (by decide +kernel)
                refine And.intro (fun (c269 : (σ 12 47) = 20) => ?_) (fun (c270 : ¬ (σ 12 47) = 20) => ?_)
                · refine And.intro (show Int.negSucc 2147483647 ≤ 4 ∧ 4 ≤ 2147483647 from rgm (by omega)) ?_
                  have f271 : 0 ≤ σ 12 12 ∧ σ 12 12 ≤ 940 := zf B hb (t := 12) (f := 12) (by decide +kernel)
                  refine And.intro (show Int.negSucc 2147483647 ≤ (σ 12 12) ∧ (σ 12 12) ≤ 2147483647 from rgm (by omega)) ?_
                  refine And.intro (show 0 ≤ 0 ∧ 0 ≤ 1 from by omega) ?_
                  refine And.intro (show 0 ≤ 0 ∧ 0 ≤ 1 from by omega) ?_
                  refine And.intro (fun (q : ¬ 0 = 0) => absurd q (by decide)) (fun _ => ?_)
                  refine fun (z272 : Int) (h273 : -2147483648 ≤ z272 ∧ z272 ≤ 2147483647) (e274 : z272 = vsub (-1) (σ 12 12)) => ?_
                  show K (some (.inl z272)) (vup (vup σ 12 15 4) 12 16 (σ 12 12))
                  exact hK _ _ (by omega) (vX_fr hX rfl rfl) (show σ 12 2 = 0 from by omega)
                · have f275 : (-2147483648) ≤ σ 12 49 ∧ σ 12 49 ≤ 2147483647 := zf B hb (t := 12) (f := 49) (by decide +kernel)
                  refine And.intro (fun (c276 : (σ 12 49) ≤ 8) => ?_) (fun (c277 : 8 < (σ 12 49)) => ?_)
                  · refine And.intro (show -2147483648 ≤ ((σ 12 47) + 1) ∧ ((σ 12 47) + 1) ≤ 2147483647 from by omega) ?_
                    refine And.intro (show Int.negSucc 2147483647 ≤ ((σ 12 47) + 1) ∧ ((σ 12 47) + 1) ≤ 2147483647 from rgm (by omega)) ?_
                    refine And.intro (show vX (vup σ 12 47 ((σ 12 47) + 1)) from vX_fr hX rfl rfl) (And.intro (by decide +kernel) (fun (σ278 : vS) (a279 : vX σ278) (a280 : vBd (zso E) gST zuq σ278) (a281 : vFm zuq md271 (vup σ 12 47 ((σ 12 47) + 1)) σ278) => ?_))
                    have e282 : σ278 12 46 = σ 12 46 := vFm_fl a281 (t := 12) (f := 46) rfl (by decide +kernel)
                    have e283 : σ278 12 48 = σ 12 48 := vFm_fl a281 (t := 12) (f := 48) rfl (by decide +kernel)
                    have e284 : σ278 12 47 = (σ 12 47) + 1 := vFm_fl a281 (t := 12) (f := 47) rfl (by decide +kernel)
                    have e285 : σ278 12 50 = σ 12 50 := vFm_fl a281 (t := 12) (f := 50) rfl (by decide +kernel)
                    have e286 : σ278 12 2 = σ 12 2 := vFm_fl a281 (t := 12) (f := 2) rfl (by decide +kernel)
                    have e287 : σ278 72 = σ 72 := vFm_at a281 rfl (by decide +kernel)
                    have e288 : σ278 54 = σ 54 := vFm_at a281 rfl (by decide +kernel)
                    have h289 : zIw (σ278 54) (σ278 72) (σ278 12 46) (σ278 12 48) (σ 12 47) 0 u := by rw [e288, e287, e282, e283]; exact (hI0 (by omega))
                    refine And.intro (fun (q : ¬ 0 = 0) => absurd q (by decide)) (fun _ => ?_)
                    refine And.intro (fun _ => ?_) (fun (q : ¬ 0 = 0) => absurd q (by decide))
                    refine And.intro (show 0 ≤ 1 ∧ 1 ≤ 1 from by omega) ?_
                    refine And.intro (show 0 ≤ 1 ∧ 1 ≤ 1 from by omega) ?_
                    refine And.intro (fun (c290 : 2 ≤ z264) => ?_) (fun (c291 : z264 < 2) => ?_)
                    · refine And.intro (fun (c292 : 4 ≤ z264) => ?_) (fun (c293 : z264 < 4) => ?_)
                      · have f294 : 0 ≤ σ278 12 11 ∧ σ278 12 11 ≤ 4 := zf B a280 (t := 12) (f := 11) (by decide +kernel)
                        refine And.intro (fun (c295 : ¬ (σ278 12 11) = 3) => ?_) (fun (c296 : (σ278 12 11) = 3) => ?_)
                        · refine And.intro (show Int.negSucc 2147483647 ≤ 1 ∧ 1 ≤ 2147483647 from rgm (by omega)) ?_
                          have f297 : 0 ≤ σ278 12 12 ∧ σ278 12 12 ≤ 940 := zf B a280 (t := 12) (f := 12) (by decide +kernel)
                          refine And.intro (show Int.negSucc 2147483647 ≤ (σ278 12 12) ∧ (σ278 12 12) ≤ 2147483647 from rgm (by omega)) ?_
                          refine And.intro (show 0 ≤ 0 ∧ 0 ≤ 1 from by omega) ?_
                          refine And.intro (show 0 ≤ 0 ∧ 0 ≤ 1 from by omega) ?_
                          refine And.intro (fun (q : ¬ 0 = 0) => absurd q (by decide)) (fun _ => ?_)
                          refine fun (z298 : Int) (h299 : -2147483648 ≤ z298 ∧ z298 ≤ 2147483647) (e300 : z298 = vsub (-1) (σ278 12 12)) => ?_
                          show K (some (.inl z298)) (vup (vup (vup σ278 12 50 1) 12 15 1) 12 16 (σ278 12 12))
                          exact hK _ _ (by omega) (vX_fr a279 rfl rfl) (show σ278 12 2 = 0 from by omega)
                        · have f301 : (-2147483648) ≤ σ278 12 14 ∧ σ278 12 14 ≤ 2147483647 := zf B a280 (t := 12) (f := 14) (by decide +kernel)
                          refine And.intro (fun (c302 : (σ278 12 14) < 60) => ?_) (fun (c303 : 60 ≤ (σ278 12 14)) => ?_)
                          · refine And.intro (show Int.negSucc 2147483647 ≤ 1 ∧ 1 ≤ 2147483647 from rgm (by omega)) ?_
                            have f304 : 0 ≤ σ278 12 12 ∧ σ278 12 12 ≤ 940 := zf B a280 (t := 12) (f := 12) (by decide +kernel)
                            refine And.intro (show Int.negSucc 2147483647 ≤ (σ278 12 12) ∧ (σ278 12 12) ≤ 2147483647 from rgm (by omega)) ?_
                            refine And.intro (show 0 ≤ 0 ∧ 0 ≤ 1 from by omega) ?_
                            refine And.intro (show 0 ≤ 0 ∧ 0 ≤ 1 from by omega) ?_
                            refine And.intro (fun (q : ¬ 0 = 0) => absurd q (by decide)) (fun _ => ?_)
                            refine fun (z305 : Int) (h306 : -2147483648 ≤ z305 ∧ z305 ≤ 2147483647) (e307 : z305 = vsub (-1) (σ278 12 12)) => ?_
                            show K (some (.inl z305)) (vup (vup (vup σ278 12 50 1) 12 15 1) 12 16 (σ278 12 12))
                            exact hK _ _ (by omega) (vX_fr a279 rfl rfl) (show σ278 12 2 = 0 from by omega)
                          · refine And.intro (fun (c308 : (σ278 12 14) ≤ 62) => ?_) (fun (c309 : 62 < (σ278 12 14)) => ?_)
                            · refine And.intro (show vX (vup σ278 12 50 1) from vX_fr a279 rfl rfl) (And.intro (by decide +kernel) (fun (σ310 : vS) (a311 : vX σ310) (a312 : vBd (zso E) gST zuq σ310) (a313 : vFm zuq md271 (vup σ278 12 50 1) σ310) => ?_))
                              have e314 : σ310 12 46 = σ278 12 46 := vFm_fl a313 (t := 12) (f := 46) rfl (by decide +kernel)
                              have e315 : σ310 12 48 = σ278 12 48 := vFm_fl a313 (t := 12) (f := 48) rfl (by decide +kernel)
                              have e316 : σ310 12 47 = σ278 12 47 := vFm_fl a313 (t := 12) (f := 47) rfl (by decide +kernel)
                              have e317 : σ310 12 50 = 1 := vFm_fl a313 (t := 12) (f := 50) rfl (by decide +kernel)
                              have e318 : σ310 12 2 = σ278 12 2 := vFm_fl a313 (t := 12) (f := 2) rfl (by decide +kernel)
                              have e319 : σ310 72 = σ278 72 := vFm_at a313 rfl (by decide +kernel)
                              have e320 : σ310 54 = σ278 54 := vFm_at a313 rfl (by decide +kernel)
                              have h321 : zIw (σ310 54) (σ310 72) (σ310 12 46) (σ310 12 48) (σ 12 47) 0 u := by rw [e320, e319, e314, e315]; exact h289
                              have f322 : 0 ≤ σ310 12 11 ∧ σ310 12 11 ≤ 4 := zf B a312 (t := 12) (f := 11) (by decide +kernel)
                              refine And.intro (fun (c323 : (σ310 12 11) = 2) => ?_) (fun (c324 : ¬ (σ310 12 11) = 2) => ?_)
                              · have f325 : (-2147483648) ≤ σ310 12 14 ∧ σ310 12 14 ≤ 2147483647 := zf B a312 (t := 12) (f := 14) (by decide +kernel)
                                have f326 : 0 ≤ σ310 12 46 ∧ σ310 12 46 ≤ 53 := zf B a312 (t := 12) (f := 46) (by decide +kernel)
                                refine And.intro (show -2147483648 ≤ (3 * (σ310 12 46)) ∧ (3 * (σ310 12 46)) ≤ 2147483647 from by omega) ?_
                                refine And.intro (show 0 ≤ (3 * (σ310 12 46)) ∧ (3 * (σ310 12 46)) < 160 from by omega) ?_
                                refine And.intro (show Int.negSucc 2147483647 ≤ z264 ∧ z264 ≤ 2147483647 from rgm (by omega)) ?_
                                refine And.intro (show -2147483648 ≤ (3 * (σ310 12 46)) ∧ (3 * (σ310 12 46)) ≤ 2147483647 from by omega) ?_
                                refine And.intro (show -2147483648 ≤ ((3 * (σ310 12 46)) + 1) ∧ ((3 * (σ310 12 46)) + 1) ≤ 2147483647 from by omega) ?_
                                refine And.intro (show 0 ≤ ((3 * (σ310 12 46)) + 1) ∧ ((3 * (σ310 12 46)) + 1) < 160 from by omega) ?_
                                refine And.intro (show Int.negSucc 2147483647 ≤ (σ278 12 14) ∧ (σ278 12 14) ≤ 2147483647 from rgm (by omega)) ?_
                                refine And.intro (show -2147483648 ≤ (3 * (σ310 12 46)) ∧ (3 * (σ310 12 46)) ≤ 2147483647 from by omega) ?_
                                refine And.intro (show -2147483648 ≤ ((3 * (σ310 12 46)) + 2) ∧ ((3 * (σ310 12 46)) + 2) ≤ 2147483647 from by omega) ?_
                                refine And.intro (show 0 ≤ ((3 * (σ310 12 46)) + 2) ∧ ((3 * (σ310 12 46)) + 2) < 160 from by omega) ?_
                                refine And.intro (show Int.negSucc 2147483647 ≤ (σ310 12 14) ∧ (σ310 12 14) ≤ 2147483647 from rgm (by omega)) ?_
                                refine And.intro (show -2147483648 ≤ ((σ310 12 46) + 1) ∧ ((σ310 12 46) + 1) ≤ 2147483647 from by omega) ?_
                                refine And.intro (show 0 ≤ ((σ310 12 46) + 1) ∧ ((σ310 12 46) + 1) ≤ 53 from by omega) ?_
                                refine And.intro (show vX (vup (vup (vup (vup σ310 54 (3 * (σ310 12 46)) z264) 54 ((3 * (σ310 12 46)) + 1) (σ278 12 14)) 54 ((3 * (σ310 12 46)) + 2) (σ310 12 14)) 12 46 ((σ310 12 46) + 1)) from vX_fr a311 rfl rfl) (And.intro (by decide +kernel) (fun (σ327 : vS) (a328 : vX σ327) (a329 : vBd (zso E) gST zuq σ327) (a330 : vFm zuq md271 (vup (vup (vup (vup σ310 54 (3 * (σ310 12 46)) z264) 54 ((3 * (σ310 12 46)) + 1) (σ278 12 14)) 54 ((3 * (σ310 12 46)) + 2) (σ310 12 14)) 12 46 ((σ310 12 46) + 1)) σ327) => ?_))
                                have e331 : σ327 12 46 = (σ310 12 46) + 1 := vFm_fl a330 (t := 12) (f := 46) rfl (by decide +kernel)
                                have e332 : σ327 12 48 = σ310 12 48 := vFm_fl a330 (t := 12) (f := 48) rfl (by decide +kernel)
                                have e333 : σ327 12 47 = σ310 12 47 := vFm_fl a330 (t := 12) (f := 47) rfl (by decide +kernel)
                                have e334 : σ327 12 50 = σ310 12 50 := vFm_fl a330 (t := 12) (f := 50) rfl (by decide +kernel)
                                have e335 : σ327 12 2 = σ310 12 2 := vFm_fl a330 (t := 12) (f := 2) rfl (by decide +kernel)
                                have e336 : σ327 72 = σ310 72 := vFm_at a330 rfl (by decide +kernel)
                                have e337 : σ327 54 = (vup (vup (vup (vup σ310 54 (3 * (σ310 12 46)) z264) 54 ((3 * (σ310 12 46)) + 1) (σ278 12 14)) 54 ((3 * (σ310 12 46)) + 2) (σ310 12 14)) 12 46 ((σ310 12 46) + 1)) 54 := vFm_at a330 rfl (by decide +kernel)
                                have h338 : zIw (σ327 54) (σ327 72) (σ327 12 46) (σ327 12 48) (σ 12 47 + 1) 1 u := by
                                  rw [e337, e336, e331, e332, show (vup (vup (vup (vup σ310 54 (3 * (σ310 12 46)) z264) 54 ((3 * (σ310 12 46)) + 1) (σ278 12 14)) 54 ((3 * (σ310 12 46)) + 2) (σ310 12 14)) 12 46 ((σ310 12 46) + 1)) 54 = ful (ful (ful (σ310 54) (3 * (σ310 12 46)) z264) ((3 * (σ310 12 46)) + 1) (σ278 12 14)) ((3 * (σ310 12 46)) + 2) (σ310 12 14) from vup3]
                                  exact zIw_leaf h321 ful3_lo ful3_at (by omega) (by omega)
                                refine And.intro (show 0 ≤ 1 ∧ 1 ≤ 1 from by omega) ?_
                                refine And.intro (fun _ => ?_) (fun (q : 1 = 0) => absurd q (by decide))
                                show zG E gJ1 md268 w gm_268 48 [(0, .inr (.inl 12)), (1, .inl 1)] σ327 K
                                have hF : zIv σ327 u := by
                                  show zIw (σ327 54) (σ327 72) (σ327 12 46) (σ327 12 48) (σ327 12 47) (σ327 12 50) u
                                  rw [show σ327 12 47 = σ 12 47 + 1 from by omega, show σ327 12 50 = 1 from by omega]
                                  exact h338
                                exact ih σ327 u (by omega) hF a328 (by omega) (by omega)
                              · refine And.intro (show Int.negSucc 2147483647 ≤ 1 ∧ 1 ≤ 2147483647 from rgm (by omega)) ?_
                                have f339 : 0 ≤ σ310 12 12 ∧ σ310 12 12 ≤ 940 := zf B a312 (t := 12) (f := 12) (by decide +kernel)
                                refine And.intro (show Int.negSucc 2147483647 ≤ (σ310 12 12) ∧ (σ310 12 12) ≤ 2147483647 from rgm (by omega)) ?_
                                refine And.intro (show 0 ≤ 0 ∧ 0 ≤ 1 from by omega) ?_
                                refine And.intro (show 0 ≤ 0 ∧ 0 ≤ 1 from by omega) ?_
                                refine And.intro (fun (q : ¬ 0 = 0) => absurd q (by decide)) (fun _ => ?_)
                                refine fun (z340 : Int) (h341 : -2147483648 ≤ z340 ∧ z340 ≤ 2147483647) (e342 : z340 = vsub (-1) (σ310 12 12)) => ?_
                                show K (some (.inl z340)) (vup (vup σ310 12 15 1) 12 16 (σ310 12 12))
                                exact hK _ _ (by omega) (vX_fr a311 rfl rfl) (show σ310 12 2 = 0 from by omega)
                            · refine And.intro (show Int.negSucc 2147483647 ≤ 1 ∧ 1 ≤ 2147483647 from rgm (by omega)) ?_
                              have f343 : 0 ≤ σ278 12 12 ∧ σ278 12 12 ≤ 940 := zf B a280 (t := 12) (f := 12) (by decide +kernel)
                              refine And.intro (show Int.negSucc 2147483647 ≤ (σ278 12 12) ∧ (σ278 12 12) ≤ 2147483647 from rgm (by omega)) ?_
                              refine And.intro (show 0 ≤ 0 ∧ 0 ≤ 1 from by omega) ?_
                              refine And.intro (show 0 ≤ 0 ∧ 0 ≤ 1 from by omega) ?_
                              refine And.intro (fun (q : ¬ 0 = 0) => absurd q (by decide)) (fun _ => ?_)
                              refine fun (z344 : Int) (h345 : -2147483648 ≤ z344 ∧ z344 ≤ 2147483647) (e346 : z344 = vsub (-1) (σ278 12 12)) => ?_
                              show K (some (.inl z344)) (vup (vup (vup σ278 12 50 1) 12 15 1) 12 16 (σ278 12 12))
                              exact hK _ _ (by omega) (vX_fr a279 rfl rfl) (show σ278 12 2 = 0 from by omega)
                      · refine And.intro ⟨rfl, trivial⟩ (And.intro (show vX (vup σ278 12 50 1) from vX_fr a279 rfl rfl) (fun (z347 : Int) (a348 : 0 ≤ z347 ∧ z347 ≤ 1) => ?_))
                        refine And.intro (fun (c349 : ¬ z347 = 0) => ?_) (fun (c350 : z347 = 0) => ?_)
                        · refine And.intro (fun (c351 : ¬ z264 = 2) => ?_) (fun (c352 : z264 = 2) => ?_)
                          · refine And.intro (show 0 ≤ 0 ∧ 0 < 402 from by omega) ?_
                            have f353 : 0 ≤ σ278 52 0 ∧ σ278 52 0 ≤ 6 := zb B a280 (t := 52) (a := 0) (n := 2) (i := 0) (by decide +kernel) (by omega) (by omega)
                            refine And.intro (show (0 ≤ 0 ∧ 0 ≤ 6) ∧ (0 ≤ (σ278 52 0) ∧ (σ278 52 0) ≤ 12) from by omega) (fun (z354 : Int) (h355 : -1 ≤ z354 ∧ z354 ≤ 11) => ?_)
                            refine And.intro (fun (c356 : 0 ≤ z354) => ?_) (fun (c357 : z354 < 0) => ?_)
                            · have f358 : 0 ≤ σ278 12 46 ∧ σ278 12 46 ≤ 53 := zf B a280 (t := 12) (f := 46) (by decide +kernel)
                              refine And.intro (show -2147483648 ≤ (3 * (σ278 12 46)) ∧ (3 * (σ278 12 46)) ≤ 2147483647 from by omega) ?_
                              refine And.intro (show 0 ≤ (3 * (σ278 12 46)) ∧ (3 * (σ278 12 46)) < 160 from by omega) ?_
                              refine And.intro (show Int.negSucc 2147483647 ≤ z264 ∧ z264 ≤ 2147483647 from rgm (by omega)) ?_
                              refine And.intro (show -2147483648 ≤ (3 * (σ278 12 46)) ∧ (3 * (σ278 12 46)) ≤ 2147483647 from by omega) ?_
                              refine And.intro (show -2147483648 ≤ ((3 * (σ278 12 46)) + 1) ∧ ((3 * (σ278 12 46)) + 1) ≤ 2147483647 from by omega) ?_
                              refine And.intro (show 0 ≤ ((3 * (σ278 12 46)) + 1) ∧ ((3 * (σ278 12 46)) + 1) < 160 from by omega) ?_
                              refine And.intro (show Int.negSucc 2147483647 ≤ 0 ∧ 0 ≤ 2147483647 from rgm (by omega)) ?_
                              refine And.intro (show -2147483648 ≤ (3 * (σ278 12 46)) ∧ (3 * (σ278 12 46)) ≤ 2147483647 from by omega) ?_
                              refine And.intro (show -2147483648 ≤ ((3 * (σ278 12 46)) + 2) ∧ ((3 * (σ278 12 46)) + 2) ≤ 2147483647 from by omega) ?_
                              refine And.intro (show 0 ≤ ((3 * (σ278 12 46)) + 2) ∧ ((3 * (σ278 12 46)) + 2) < 160 from by omega) ?_
                              refine And.intro (show Int.negSucc 2147483647 ≤ z354 ∧ z354 ≤ 2147483647 from rgm (by omega)) ?_
                              refine And.intro (show -2147483648 ≤ ((σ278 12 46) + 1) ∧ ((σ278 12 46) + 1) ≤ 2147483647 from by omega) ?_
                              refine And.intro (show 0 ≤ ((σ278 12 46) + 1) ∧ ((σ278 12 46) + 1) ≤ 53 from by omega) ?_
                              refine And.intro (show vX (vup (vup (vup (vup (vup σ278 12 50 1) 54 (3 * (σ278 12 46)) z264) 54 ((3 * (σ278 12 46)) + 1) 0) 54 ((3 * (σ278 12 46)) + 2) z354) 12 46 ((σ278 12 46) + 1)) from vX_fr a279 rfl rfl) (And.intro (by decide +kernel) (fun (σ359 : vS) (a360 : vX σ359) (a361 : vBd (zso E) gST zuq σ359) (a362 : vFm zuq md271 (vup (vup (vup (vup (vup σ278 12 50 1) 54 (3 * (σ278 12 46)) z264) 54 ((3 * (σ278 12 46)) + 1) 0) 54 ((3 * (σ278 12 46)) + 2) z354) 12 46 ((σ278 12 46) + 1)) σ359) => ?_))
                              have e363 : σ359 12 46 = (σ278 12 46) + 1 := vFm_fl a362 (t := 12) (f := 46) rfl (by decide +kernel)
                              have e364 : σ359 12 48 = σ278 12 48 := vFm_fl a362 (t := 12) (f := 48) rfl (by decide +kernel)
                              have e365 : σ359 12 47 = σ278 12 47 := vFm_fl a362 (t := 12) (f := 47) rfl (by decide +kernel)
                              have e366 : σ359 12 50 = 1 := vFm_fl a362 (t := 12) (f := 50) rfl (by decide +kernel)
                              have e367 : σ359 12 2 = σ278 12 2 := vFm_fl a362 (t := 12) (f := 2) rfl (by decide +kernel)
                              have e368 : σ359 72 = σ278 72 := vFm_at a362 rfl (by decide +kernel)
                              have e369 : σ359 54 = (vup (vup (vup (vup (vup σ278 12 50 1) 54 (3 * (σ278 12 46)) z264) 54 ((3 * (σ278 12 46)) + 1) 0) 54 ((3 * (σ278 12 46)) + 2) z354) 12 46 ((σ278 12 46) + 1)) 54 := vFm_at a362 rfl (by decide +kernel)
                              have h370 : zIw (σ359 54) (σ359 72) (σ359 12 46) (σ359 12 48) (σ 12 47 + 1) 1 u := by
                                rw [e369, e368, e363, e364, show (vup (vup (vup (vup (vup σ278 12 50 1) 54 (3 * (σ278 12 46)) z264) 54 ((3 * (σ278 12 46)) + 1) 0) 54 ((3 * (σ278 12 46)) + 2) z354) 12 46 ((σ278 12 46) + 1)) 54 = ful (ful (ful (σ278 54) (3 * (σ278 12 46)) z264) ((3 * (σ278 12 46)) + 1) 0) ((3 * (σ278 12 46)) + 2) z354 from vup3]
                                exact zIw_leaf h289 ful3_lo ful3_at (by omega) (by omega)
                              refine And.intro (show 0 ≤ 1 ∧ 1 ≤ 1 from by omega) ?_
                              refine And.intro (fun _ => ?_) (fun (q : 1 = 0) => absurd q (by decide))
                              show zG E gJ1 md268 w gm_268 48 [(0, .inr (.inl 12)), (1, .inl 1)] σ359 K
                              have hF : zIv σ359 u := by
                                show zIw (σ359 54) (σ359 72) (σ359 12 46) (σ359 12 48) (σ359 12 47) (σ359 12 50) u
                                rw [show σ359 12 47 = σ 12 47 + 1 from by omega, show σ359 12 50 = 1 from by omega]
                                exact h370
                              exact ih σ359 u (by omega) hF a360 (by omega) (by omega)
                            · refine And.intro (show Int.negSucc 2147483647 ≤ 3 ∧ 3 ≤ 2147483647 from rgm (by omega)) ?_
                              have f371 : 0 ≤ σ278 12 12 ∧ σ278 12 12 ≤ 940 := zf B a280 (t := 12) (f := 12) (by decide +kernel)
                              refine And.intro (show Int.negSucc 2147483647 ≤ (σ278 12 12) ∧ (σ278 12 12) ≤ 2147483647 from rgm (by omega)) ?_
                              refine And.intro (show 0 ≤ 0 ∧ 0 ≤ 1 from by omega) ?_
                              refine And.intro (show 0 ≤ 0 ∧ 0 ≤ 1 from by omega) ?_
                              refine And.intro (fun (q : ¬ 0 = 0) => absurd q (by decide)) (fun _ => ?_)
                              refine fun (z372 : Int) (h373 : -2147483648 ≤ z372 ∧ z372 ≤ 2147483647) (e374 : z372 = vsub (-1) (σ278 12 12)) => ?_
                              show K (some (.inl z372)) (vup (vup (vup σ278 12 50 1) 12 15 3) 12 16 (σ278 12 12))
                              exact hK _ _ (by omega) (vX_fr a279 rfl rfl) (show σ278 12 2 = 0 from by omega)
                          · refine And.intro (show 0 ≤ 1 ∧ 1 < 402 from by omega) ?_
                            have f375 : 0 ≤ σ278 52 1 ∧ σ278 52 1 ≤ 6 := zb B a280 (t := 52) (a := 0) (n := 2) (i := 1) (by decide +kernel) (by omega) (by omega)
                            refine And.intro (show (0 ≤ 6 ∧ 6 ≤ 6) ∧ (0 ≤ (σ278 52 1) ∧ (σ278 52 1) ≤ 12) from by omega) (fun (z376 : Int) (h377 : -1 ≤ z376 ∧ z376 ≤ 11) => ?_)
                            refine And.intro (fun (c378 : 0 ≤ z376) => ?_) (fun (c379 : z376 < 0) => ?_)
                            · have f380 : 0 ≤ σ278 12 46 ∧ σ278 12 46 ≤ 53 := zf B a280 (t := 12) (f := 46) (by decide +kernel)
                              refine And.intro (show -2147483648 ≤ (3 * (σ278 12 46)) ∧ (3 * (σ278 12 46)) ≤ 2147483647 from by omega) ?_
                              refine And.intro (show 0 ≤ (3 * (σ278 12 46)) ∧ (3 * (σ278 12 46)) < 160 from by omega) ?_
                              refine And.intro (show Int.negSucc 2147483647 ≤ z264 ∧ z264 ≤ 2147483647 from rgm (by omega)) ?_
                              refine And.intro (show -2147483648 ≤ (3 * (σ278 12 46)) ∧ (3 * (σ278 12 46)) ≤ 2147483647 from by omega) ?_
                              refine And.intro (show -2147483648 ≤ ((3 * (σ278 12 46)) + 1) ∧ ((3 * (σ278 12 46)) + 1) ≤ 2147483647 from by omega) ?_
                              refine And.intro (show 0 ≤ ((3 * (σ278 12 46)) + 1) ∧ ((3 * (σ278 12 46)) + 1) < 160 from by omega) ?_
                              refine And.intro (show Int.negSucc 2147483647 ≤ 0 ∧ 0 ≤ 2147483647 from rgm (by omega)) ?_
                              refine And.intro (show -2147483648 ≤ (3 * (σ278 12 46)) ∧ (3 * (σ278 12 46)) ≤ 2147483647 from by omega) ?_
                              refine And.intro (show -2147483648 ≤ ((3 * (σ278 12 46)) + 2) ∧ ((3 * (σ278 12 46)) + 2) ≤ 2147483647 from by omega) ?_
                              refine And.intro (show 0 ≤ ((3 * (σ278 12 46)) + 2) ∧ ((3 * (σ278 12 46)) + 2) < 160 from by omega) ?_
                              refine And.intro (show Int.negSucc 2147483647 ≤ z376 ∧ z376 ≤ 2147483647 from rgm (by omega)) ?_
                              refine And.intro (show -2147483648 ≤ ((σ278 12 46) + 1) ∧ ((σ278 12 46) + 1) ≤ 2147483647 from by omega) ?_
                              refine And.intro (show 0 ≤ ((σ278 12 46) + 1) ∧ ((σ278 12 46) + 1) ≤ 53 from by omega) ?_
                              refine And.intro (show vX (vup (vup (vup (vup (vup σ278 12 50 1) 54 (3 * (σ278 12 46)) z264) 54 ((3 * (σ278 12 46)) + 1) 0) 54 ((3 * (σ278 12 46)) + 2) z376) 12 46 ((σ278 12 46) + 1)) from vX_fr a279 rfl rfl) (And.intro (by decide +kernel) (fun (σ381 : vS) (a382 : vX σ381) (a383 : vBd (zso E) gST zuq σ381) (a384 : vFm zuq md271 (vup (vup (vup (vup (vup σ278 12 50 1) 54 (3 * (σ278 12 46)) z264) 54 ((3 * (σ278 12 46)) + 1) 0) 54 ((3 * (σ278 12 46)) + 2) z376) 12 46 ((σ278 12 46) + 1)) σ381) => ?_))
                              have e385 : σ381 12 46 = (σ278 12 46) + 1 := vFm_fl a384 (t := 12) (f := 46) rfl (by decide +kernel)
                              have e386 : σ381 12 48 = σ278 12 48 := vFm_fl a384 (t := 12) (f := 48) rfl (by decide +kernel)
                              have e387 : σ381 12 47 = σ278 12 47 := vFm_fl a384 (t := 12) (f := 47) rfl (by decide +kernel)
                              have e388 : σ381 12 50 = 1 := vFm_fl a384 (t := 12) (f := 50) rfl (by decide +kernel)
                              have e389 : σ381 12 2 = σ278 12 2 := vFm_fl a384 (t := 12) (f := 2) rfl (by decide +kernel)
                              have e390 : σ381 72 = σ278 72 := vFm_at a384 rfl (by decide +kernel)
                              have e391 : σ381 54 = (vup (vup (vup (vup (vup σ278 12 50 1) 54 (3 * (σ278 12 46)) z264) 54 ((3 * (σ278 12 46)) + 1) 0) 54 ((3 * (σ278 12 46)) + 2) z376) 12 46 ((σ278 12 46) + 1)) 54 := vFm_at a384 rfl (by decide +kernel)
                              have h392 : zIw (σ381 54) (σ381 72) (σ381 12 46) (σ381 12 48) (σ 12 47 + 1) 1 u := by
                                rw [e391, e390, e385, e386, show (vup (vup (vup (vup (vup σ278 12 50 1) 54 (3 * (σ278 12 46)) z264) 54 ((3 * (σ278 12 46)) + 1) 0) 54 ((3 * (σ278 12 46)) + 2) z376) 12 46 ((σ278 12 46) + 1)) 54 = ful (ful (ful (σ278 54) (3 * (σ278 12 46)) z264) ((3 * (σ278 12 46)) + 1) 0) ((3 * (σ278 12 46)) + 2) z376 from vup3]
                                exact zIw_leaf h289 ful3_lo ful3_at (by omega) (by omega)
                              refine And.intro (show 0 ≤ 1 ∧ 1 ≤ 1 from by omega) ?_
                              refine And.intro (fun _ => ?_) (fun (q : 1 = 0) => absurd q (by decide))
                              show zG E gJ1 md268 w gm_268 48 [(0, .inr (.inl 12)), (1, .inl 1)] σ381 K
                              have hF : zIv σ381 u := by
                                show zIw (σ381 54) (σ381 72) (σ381 12 46) (σ381 12 48) (σ381 12 47) (σ381 12 50) u
                                rw [show σ381 12 47 = σ 12 47 + 1 from by omega, show σ381 12 50 = 1 from by omega]
                                exact h392
                              exact ih σ381 u (by omega) hF a382 (by omega) (by omega)
                            · refine And.intro (show Int.negSucc 2147483647 ≤ 3 ∧ 3 ≤ 2147483647 from rgm (by omega)) ?_
                              have f393 : 0 ≤ σ278 12 12 ∧ σ278 12 12 ≤ 940 := zf B a280 (t := 12) (f := 12) (by decide +kernel)
                              refine And.intro (show Int.negSucc 2147483647 ≤ (σ278 12 12) ∧ (σ278 12 12) ≤ 2147483647 from rgm (by omega)) ?_
                              refine And.intro (show 0 ≤ 0 ∧ 0 ≤ 1 from by omega) ?_
                              refine And.intro (show 0 ≤ 0 ∧ 0 ≤ 1 from by omega) ?_
                              refine And.intro (fun (q : ¬ 0 = 0) => absurd q (by decide)) (fun _ => ?_)
                              refine fun (z394 : Int) (h395 : -2147483648 ≤ z394 ∧ z394 ≤ 2147483647) (e396 : z394 = vsub (-1) (σ278 12 12)) => ?_
                              show K (some (.inl z394)) (vup (vup (vup σ278 12 50 1) 12 15 3) 12 16 (σ278 12 12))
                              exact hK _ _ (by omega) (vX_fr a279 rfl rfl) (show σ278 12 2 = 0 from by omega)
                        · refine And.intro (show Int.negSucc 2147483647 ≤ 1 ∧ 1 ≤ 2147483647 from rgm (by omega)) ?_
                          have f397 : 0 ≤ σ278 12 12 ∧ σ278 12 12 ≤ 940 := zf B a280 (t := 12) (f := 12) (by decide +kernel)
                          refine And.intro (show Int.negSucc 2147483647 ≤ (σ278 12 12) ∧ (σ278 12 12) ≤ 2147483647 from rgm (by omega)) ?_
                          refine And.intro (show 0 ≤ 0 ∧ 0 ≤ 1 from by omega) ?_
                          refine And.intro (show 0 ≤ 0 ∧ 0 ≤ 1 from by omega) ?_
                          refine And.intro (fun (q : ¬ 0 = 0) => absurd q (by decide)) (fun _ => ?_)
                          refine fun (z398 : Int) (h399 : -2147483648 ≤ z398 ∧ z398 ≤ 2147483647) (e400 : z398 = vsub (-1) (σ278 12 12)) => ?_
                          show K (some (.inl z398)) (vup (vup (vup σ278 12 50 1) 12 15 1) 12 16 (σ278 12 12))
                          exact hK _ _ (by omega) (vX_fr a279 rfl rfl) (show σ278 12 2 = 0 from by omega)
                    · have f401 : 0 ≤ σ278 12 46 ∧ σ278 12 46 ≤ 53 := zf B a280 (t := 12) (f := 46) (by decide +kernel)
                      refine And.intro (show -2147483648 ≤ (3 * (σ278 12 46)) ∧ (3 * (σ278 12 46)) ≤ 2147483647 from by omega) ?_
                      refine And.intro (show 0 ≤ (3 * (σ278 12 46)) ∧ (3 * (σ278 12 46)) < 160 from by omega) ?_
                      refine And.intro (show Int.negSucc 2147483647 ≤ z264 ∧ z264 ≤ 2147483647 from rgm (by omega)) ?_
                      refine And.intro (show -2147483648 ≤ (3 * (σ278 12 46)) ∧ (3 * (σ278 12 46)) ≤ 2147483647 from by omega) ?_
                      refine And.intro (show -2147483648 ≤ ((3 * (σ278 12 46)) + 1) ∧ ((3 * (σ278 12 46)) + 1) ≤ 2147483647 from by omega) ?_
                      refine And.intro (show 0 ≤ ((3 * (σ278 12 46)) + 1) ∧ ((3 * (σ278 12 46)) + 1) < 160 from by omega) ?_
                      refine And.intro (show Int.negSucc 2147483647 ≤ 0 ∧ 0 ≤ 2147483647 from rgm (by omega)) ?_
                      refine And.intro (show -2147483648 ≤ (3 * (σ278 12 46)) ∧ (3 * (σ278 12 46)) ≤ 2147483647 from by omega) ?_
                      refine And.intro (show -2147483648 ≤ ((3 * (σ278 12 46)) + 2) ∧ ((3 * (σ278 12 46)) + 2) ≤ 2147483647 from by omega) ?_
                      refine And.intro (show 0 ≤ ((3 * (σ278 12 46)) + 2) ∧ ((3 * (σ278 12 46)) + 2) < 160 from by omega) ?_
                      refine And.intro (show Int.negSucc 2147483647 ≤ 0 ∧ 0 ≤ 2147483647 from rgm (by omega)) ?_
                      refine And.intro (show -2147483648 ≤ ((σ278 12 46) + 1) ∧ ((σ278 12 46) + 1) ≤ 2147483647 from by omega) ?_
                      refine And.intro (show 0 ≤ ((σ278 12 46) + 1) ∧ ((σ278 12 46) + 1) ≤ 53 from by omega) ?_
                      refine And.intro (show 0 ≤ 1 ∧ 1 ≤ 1 from by omega) ?_
                      refine And.intro (fun _ => ?_) (fun (q : 1 = 0) => absurd q (by decide))
                      show zG E gJ1 md268 w gm_268 48 [(0, .inr (.inl 12)), (1, .inl 1)] (vup (vup (vup (vup (vup σ278 12 50 1) 54 (3 * (σ278 12 46)) z264) 54 ((3 * (σ278 12 46)) + 1) 0) 54 ((3 * (σ278 12 46)) + 2) 0) 12 46 ((σ278 12 46) + 1)) K
                      have hF : zIv (vup (vup (vup (vup (vup σ278 12 50 1) 54 (3 * (σ278 12 46)) z264) 54 ((3 * (σ278 12 46)) + 1) 0) 54 ((3 * (σ278 12 46)) + 2) 0) 12 46 ((σ278 12 46) + 1)) u := by
                        show zIw ((vup (vup (vup (vup (vup σ278 12 50 1) 54 (3 * (σ278 12 46)) z264) 54 ((3 * (σ278 12 46)) + 1) 0) 54 ((3 * (σ278 12 46)) + 2) 0) 12 46 ((σ278 12 46) + 1)) 54) (σ278 72) (σ278 12 46 + 1) (σ278 12 48) (σ278 12 47) 1 u
                        rw [show σ278 12 47 = σ 12 47 + 1 from by omega, show (vup (vup (vup (vup (vup σ278 12 50 1) 54 (3 * (σ278 12 46)) z264) 54 ((3 * (σ278 12 46)) + 1) 0) 54 ((3 * (σ278 12 46)) + 2) 0) 12 46 ((σ278 12 46) + 1)) 54 = ful (ful (ful (σ278 54) (3 * (σ278 12 46)) z264) ((3 * (σ278 12 46)) + 1) 0) ((3 * (σ278 12 46)) + 2) 0 from vup3]
                        exact zIw_leaf h289 ful3_lo ful3_at (by omega) (by omega)
                      exact ih (vup (vup (vup (vup (vup σ278 12 50 1) 54 (3 * (σ278 12 46)) z264) 54 ((3 * (σ278 12 46)) + 1) 0) 54 ((3 * (σ278 12 46)) + 2) 0) 12 46 ((σ278 12 46) + 1)) u (show 4 * (20 - σ278 12 47) + 2 * u + 1 < (m : Int) from by omega) hF (vX_fr a279 rfl rfl) (show (0 : Int) ≤ 1 ∧ (1 : Int) ≤ 1 from by omega) (show σ278 12 2 = 0 from by omega)
                  · refine And.intro (show Int.negSucc 2147483647 ≤ 4 ∧ 4 ≤ 2147483647 from rgm (by omega)) ?_
                    have f402 : 0 ≤ σ 12 12 ∧ σ 12 12 ≤ 940 := zf B hb (t := 12) (f := 12) (by decide +kernel)
                    refine And.intro (show Int.negSucc 2147483647 ≤ (σ 12 12) ∧ (σ 12 12) ≤ 2147483647 from rgm (by omega)) ?_
                    refine And.intro (show 0 ≤ 0 ∧ 0 ≤ 1 from by omega) ?_
                    refine And.intro (show 0 ≤ 0 ∧ 0 ≤ 1 from by omega) ?_
                    refine And.intro (fun (q : ¬ 0 = 0) => absurd q (by decide)) (fun _ => ?_)
                    refine fun (z403 : Int) (h404 : -2147483648 ≤ z403 ∧ z403 ≤ 2147483647) (e405 : z403 = vsub (-1) (σ 12 12)) => ?_
                    show K (some (.inl z403)) (vup (vup σ 12 15 4) 12 16 (σ 12 12))
                    exact hK _ _ (by omega) (vX_fr hX rfl rfl) (show σ 12 2 = 0 from by omega)
              · refine And.intro (show Int.negSucc 2147483647 ≤ 1 ∧ 1 ≤ 2147483647 from rgm (by omega)) ?_
                have f406 : 0 ≤ σ 12 12 ∧ σ 12 12 ≤ 940 := zf B hb (t := 12) (f := 12) (by decide +kernel)
                refine And.intro (show Int.negSucc 2147483647 ≤ (σ 12 12) ∧ (σ 12 12) ≤ 2147483647 from rgm (by omega)) ?_
                refine And.intro (show 0 ≤ 0 ∧ 0 ≤ 1 from by omega) ?_
                refine And.intro (show 0 ≤ 0 ∧ 0 ≤ 1 from by omega) ?_
                refine And.intro (fun (q : ¬ 0 = 0) => absurd q (by decide)) (fun _ => ?_)
                refine fun (z407 : Int) (h408 : -2147483648 ≤ z407 ∧ z407 ≤ 2147483647) (e409 : z407 = vsub (-1) (σ 12 12)) => ?_
                show K (some (.inl z407)) (vup (vup σ 12 15 1) 12 16 (σ 12 12))
                exact hK _ _ (by omega) (vX_fr hX rfl rfl) (show σ 12 2 = 0 from by omega)
            · refine fun (z410 : Int) (h411 : -1 ≤ z410 ∧ z410 ≤ 7) => ?_
              refine And.intro (fun (q : ¬ 0 = 0) => absurd q (by decide)) (fun _ => ?_)
              refine And.intro (fun _ => ?_) (fun (q : 1 = 0) => absurd q (by decide))
              have f412 : (-2147483648) ≤ σ 12 47 ∧ σ 12 47 ≤ 2147483647 := zf B hb (t := 12) (f := 47) (by decide +kernel)
              refine And.intro (fun (c413 : (σ 12 47) = 20) => ?_) (fun (c414 : ¬ (σ 12 47) = 20) => ?_)
              · refine And.intro (show Int.negSucc 2147483647 ≤ 4 ∧ 4 ≤ 2147483647 from rgm (by omega)) ?_
                have f415 : 0 ≤ σ 12 12 ∧ σ 12 12 ≤ 940 := zf B hb (t := 12) (f := 12) (by decide +kernel)
                refine And.intro (show Int.negSucc 2147483647 ≤ (σ 12 12) ∧ (σ 12 12) ≤ 2147483647 from rgm (by omega)) ?_
                refine And.intro (show 0 ≤ 0 ∧ 0 ≤ 1 from by omega) ?_
                refine And.intro (show 0 ≤ 0 ∧ 0 ≤ 1 from by omega) ?_
                refine And.intro (fun (q : ¬ 0 = 0) => absurd q (by decide)) (fun _ => ?_)
                refine fun (z416 : Int) (h417 : -2147483648 ≤ z416 ∧ z416 ≤ 2147483647) (e418 : z416 = vsub (-1) (σ 12 12)) => ?_
                show K (some (.inl z416)) (vup (vup σ 12 15 4) 12 16 (σ 12 12))
                exact hK _ _ (by omega) (vX_fr hX rfl rfl) (show σ 12 2 = 0 from by omega)
              · have f419 : (-2147483648) ≤ σ 12 49 ∧ σ 12 49 ≤ 2147483647 := zf B hb (t := 12) (f := 49) (by decide +kernel)
                refine And.intro (fun (c420 : (σ 12 49) ≤ 8) => ?_) (fun (c421 : 8 < (σ 12 49)) => ?_)
                · refine And.intro (show -2147483648 ≤ ((σ 12 47) + 1) ∧ ((σ 12 47) + 1) ≤ 2147483647 from by omega) ?_
                  refine And.intro (show Int.negSucc 2147483647 ≤ ((σ 12 47) + 1) ∧ ((σ 12 47) + 1) ≤ 2147483647 from rgm (by omega)) ?_
                  refine And.intro (show vX (vup σ 12 47 ((σ 12 47) + 1)) from vX_fr hX rfl rfl) (And.intro (by decide +kernel) (fun (σ422 : vS) (a423 : vX σ422) (a424 : vBd (zso E) gST zuq σ422) (a425 : vFm zuq md271 (vup σ 12 47 ((σ 12 47) + 1)) σ422) => ?_))
                  have e426 : σ422 12 46 = σ 12 46 := vFm_fl a425 (t := 12) (f := 46) rfl (by decide +kernel)
                  have e427 : σ422 12 48 = σ 12 48 := vFm_fl a425 (t := 12) (f := 48) rfl (by decide +kernel)
                  have e428 : σ422 12 47 = (σ 12 47) + 1 := vFm_fl a425 (t := 12) (f := 47) rfl (by decide +kernel)
                  have e429 : σ422 12 50 = σ 12 50 := vFm_fl a425 (t := 12) (f := 50) rfl (by decide +kernel)
                  have e430 : σ422 12 2 = σ 12 2 := vFm_fl a425 (t := 12) (f := 2) rfl (by decide +kernel)
                  have e431 : σ422 72 = σ 72 := vFm_at a425 rfl (by decide +kernel)
                  have e432 : σ422 54 = σ 54 := vFm_at a425 rfl (by decide +kernel)
                  have h433 : zIw (σ422 54) (σ422 72) (σ422 12 46) (σ422 12 48) (σ 12 47) 0 u := by rw [e432, e431, e426, e427]; exact (hI0 (by omega))
                  refine And.intro (fun (q : ¬ 0 = 0) => absurd q (by decide)) (fun _ => ?_)
                  refine And.intro (fun (q : 1 = 0) => absurd q (by decide)) (fun _ => ?_)
                  have f434 : 0 ≤ σ422 12 48 ∧ σ422 12 48 ≤ 45 := zf B a424 (t := 12) (f := 48) (by decide +kernel)
                  refine And.intro (fun _ => ?_) (fun (q : ¬ 0 = 0) => absurd q (by decide))
                  refine And.intro (show 0 ≤ (σ422 12 48) ∧ (σ422 12 48) < 45 from by omega) ?_
                  refine And.intro (show Int.negSucc 2147483647 ≤ 23 ∧ 23 ≤ 2147483647 from rgm (by omega)) ?_
                  refine And.intro (show -2147483648 ≤ ((σ422 12 48) + 1) ∧ ((σ422 12 48) + 1) ≤ 2147483647 from by omega) ?_
                  refine And.intro (show 0 ≤ ((σ422 12 48) + 1) ∧ ((σ422 12 48) + 1) ≤ 45 from by omega) ?_
                  have f435 : (-2147483648) ≤ σ422 12 49 ∧ σ422 12 49 ≤ 2147483647 := zf B a424 (t := 12) (f := 49) (by decide +kernel)
                  refine fun (z436 : Int) (h437 : -2147483648 ≤ z436 ∧ z436 ≤ 2147483647) (e438 : z436 = vadd (σ422 12 49) 1) => ?_
                  refine And.intro (show Int.negSucc 2147483647 ≤ z436 ∧ z436 ≤ 2147483647 from rgm (by omega)) ?_
                  refine And.intro (show 0 ≤ 1 ∧ 1 ≤ 1 from by omega) ?_
                  refine And.intro (fun _ => ?_) (fun (q : 1 = 0) => absurd q (by decide))
                  show zG E gJ1 md268 w gm_268 48 [(0, .inr (.inl 12)), (1, .inl 1)] (vup (vup (vup σ422 72 (σ422 12 48) 23) 12 48 ((σ422 12 48) + 1)) 12 49 z436) K
                  have hF : zIv (vup (vup (vup σ422 72 (σ422 12 48) 23) 12 48 ((σ422 12 48) + 1)) 12 49 z436) (u + 1) := by
                    show zIw (σ422 54) ((vup (vup (vup σ422 72 (σ422 12 48) 23) 12 48 ((σ422 12 48) + 1)) 12 49 z436) 72) (σ422 12 46) (σ422 12 48 + 1) (σ422 12 47) (σ422 12 50) (u + 1)
                    rw [show σ422 12 47 = σ 12 47 + 1 from by omega, show σ422 12 50 = 0 from by omega, show (vup (vup (vup σ422 72 (σ422 12 48) 23) 12 48 ((σ422 12 48) + 1)) 12 49 z436) 72 = ful (σ422 72) (σ422 12 48) 23 from vup_f]
                    exact zIw_push h433 (by omega) (by omega)
                  exact ih (vup (vup (vup σ422 72 (σ422 12 48) 23) 12 48 ((σ422 12 48) + 1)) 12 49 z436) (u + 1) (show 4 * (20 - σ422 12 47) + 2 * (u + 1) + σ422 12 50 < (m : Int) from by omega) hF (vX_fr a423 rfl rfl) (show 0 ≤ σ422 12 50 ∧ σ422 12 50 ≤ 1 from by omega) (show σ422 12 2 = 0 from by omega)
                · refine And.intro (show Int.negSucc 2147483647 ≤ 4 ∧ 4 ≤ 2147483647 from rgm (by omega)) ?_
                  have f439 : 0 ≤ σ 12 12 ∧ σ 12 12 ≤ 940 := zf B hb (t := 12) (f := 12) (by decide +kernel)
                  refine And.intro (show Int.negSucc 2147483647 ≤ (σ 12 12) ∧ (σ 12 12) ≤ 2147483647 from rgm (by omega)) ?_
                  refine And.intro (show 0 ≤ 0 ∧ 0 ≤ 1 from by omega) ?_
                  refine And.intro (show 0 ≤ 0 ∧ 0 ≤ 1 from by omega) ?_
                  refine And.intro (fun (q : ¬ 0 = 0) => absurd q (by decide)) (fun _ => ?_)
                  refine fun (z440 : Int) (h441 : -2147483648 ≤ z440 ∧ z440 ≤ 2147483647) (e442 : z440 = vsub (-1) (σ 12 12)) => ?_
                  show K (some (.inl z440)) (vup (vup σ 12 15 4) 12 16 (σ 12 12))
                  exact hK _ _ (by omega) (vX_fr hX rfl rfl) (show σ 12 2 = 0 from by omega)
          · refine fun (z443 : Int) (h444 : z443 = 0 ∨ z443 = 1) => ?_
            rcases h444 with rfl | rfl
            · refine fun (z445 : Int) (h446 : -1 ≤ z445 ∧ z445 ≤ 7) => ?_
              refine And.intro (fun _ => ?_) (fun (q : 1 = 0) => absurd q (by decide))
              have f447 : (-2147483648) ≤ σ 12 47 ∧ σ 12 47 ≤ 2147483647 := zf B hb (t := 12) (f := 47) (by decide +kernel)
              refine And.intro (fun (c448 : (σ 12 47) = 20) => ?_) (fun (c449 : ¬ (σ 12 47) = 20) => ?_)
              · refine And.intro (show Int.negSucc 2147483647 ≤ 4 ∧ 4 ≤ 2147483647 from rgm (by omega)) ?_
                have f450 : 0 ≤ σ 12 12 ∧ σ 12 12 ≤ 940 := zf B hb (t := 12) (f := 12) (by decide +kernel)
                refine And.intro (show Int.negSucc 2147483647 ≤ (σ 12 12) ∧ (σ 12 12) ≤ 2147483647 from rgm (by omega)) ?_
                refine And.intro (show 0 ≤ 0 ∧ 0 ≤ 1 from by omega) ?_
                refine And.intro (show 0 ≤ 0 ∧ 0 ≤ 1 from by omega) ?_
                refine And.intro (fun (q : ¬ 0 = 0) => absurd q (by decide)) (fun _ => ?_)
                refine fun (z451 : Int) (h452 : -2147483648 ≤ z451 ∧ z451 ≤ 2147483647) (e453 : z451 = vsub (-1) (σ 12 12)) => ?_
                show K (some (.inl z451)) (vup (vup σ 12 15 4) 12 16 (σ 12 12))
                exact hK _ _ (by omega) (vX_fr hX rfl rfl) (show σ 12 2 = 0 from by omega)
              · have f454 : (-2147483648) ≤ σ 12 49 ∧ σ 12 49 ≤ 2147483647 := zf B hb (t := 12) (f := 49) (by decide +kernel)
                refine And.intro (fun (c455 : (σ 12 49) ≤ 8) => ?_) (fun (c456 : 8 < (σ 12 49)) => ?_)
                · refine And.intro (show -2147483648 ≤ ((σ 12 47) + 1) ∧ ((σ 12 47) + 1) ≤ 2147483647 from by omega) ?_
                  refine And.intro (show Int.negSucc 2147483647 ≤ ((σ 12 47) + 1) ∧ ((σ 12 47) + 1) ≤ 2147483647 from rgm (by omega)) ?_
                  refine And.intro (show vX (vup σ 12 47 ((σ 12 47) + 1)) from vX_fr hX rfl rfl) (And.intro (by decide +kernel) (fun (σ457 : vS) (a458 : vX σ457) (a459 : vBd (zso E) gST zuq σ457) (a460 : vFm zuq md271 (vup σ 12 47 ((σ 12 47) + 1)) σ457) => ?_))
                  have e461 : σ457 12 46 = σ 12 46 := vFm_fl a460 (t := 12) (f := 46) rfl (by decide +kernel)
                  have e462 : σ457 12 48 = σ 12 48 := vFm_fl a460 (t := 12) (f := 48) rfl (by decide +kernel)
                  have e463 : σ457 12 47 = (σ 12 47) + 1 := vFm_fl a460 (t := 12) (f := 47) rfl (by decide +kernel)
                  have e464 : σ457 12 50 = σ 12 50 := vFm_fl a460 (t := 12) (f := 50) rfl (by decide +kernel)
                  have e465 : σ457 12 2 = σ 12 2 := vFm_fl a460 (t := 12) (f := 2) rfl (by decide +kernel)
                  have e466 : σ457 72 = σ 72 := vFm_at a460 rfl (by decide +kernel)
                  have e467 : σ457 54 = σ 54 := vFm_at a460 rfl (by decide +kernel)
                  have h468 : zIw (σ457 54) (σ457 72) (σ457 12 46) (σ457 12 48) (σ 12 47) 0 u := by rw [e467, e466, e461, e462]; exact (hI0 (by omega))
                  refine And.intro (fun _ => ?_) (fun (q : 1 = 0) => absurd q (by decide))
                  have f469 : 0 ≤ σ457 12 48 ∧ σ457 12 48 ≤ 45 := zf B a459 (t := 12) (f := 48) (by decide +kernel)
                  refine And.intro (fun (q : 1 = 0) => absurd q (by decide)) (fun _ => ?_)
                  refine And.intro (show 0 ≤ (σ457 12 48) ∧ (σ457 12 48) < 45 from by omega) ?_
                  refine And.intro (show Int.negSucc 2147483647 ≤ 20 ∧ 20 ≤ 2147483647 from rgm (by omega)) ?_
                  refine And.intro (show -2147483648 ≤ ((σ457 12 48) + 1) ∧ ((σ457 12 48) + 1) ≤ 2147483647 from by omega) ?_
                  refine And.intro (show 0 ≤ ((σ457 12 48) + 1) ∧ ((σ457 12 48) + 1) ≤ 45 from by omega) ?_
                  have f470 : (-2147483648) ≤ σ457 12 49 ∧ σ457 12 49 ≤ 2147483647 := zf B a459 (t := 12) (f := 49) (by decide +kernel)
                  refine fun (z471 : Int) (h472 : -2147483648 ≤ z471 ∧ z471 ≤ 2147483647) (e473 : z471 = vadd (σ457 12 49) 1) => ?_
                  refine And.intro (show Int.negSucc 2147483647 ≤ z471 ∧ z471 ≤ 2147483647 from rgm (by omega)) ?_
                  refine And.intro (show 0 ≤ 1 ∧ 1 ≤ 1 from by omega) ?_
                  refine And.intro (fun _ => ?_) (fun (q : 1 = 0) => absurd q (by decide))
                  show zG E gJ1 md268 w gm_268 48 [(0, .inr (.inl 12)), (1, .inl 1)] (vup (vup (vup σ457 72 (σ457 12 48) 20) 12 48 ((σ457 12 48) + 1)) 12 49 z471) K
                  have hF : zIv (vup (vup (vup σ457 72 (σ457 12 48) 20) 12 48 ((σ457 12 48) + 1)) 12 49 z471) (u + 1) := by
                    show zIw (σ457 54) ((vup (vup (vup σ457 72 (σ457 12 48) 20) 12 48 ((σ457 12 48) + 1)) 12 49 z471) 72) (σ457 12 46) (σ457 12 48 + 1) (σ457 12 47) (σ457 12 50) (u + 1)
                    rw [show σ457 12 47 = σ 12 47 + 1 from by omega, show σ457 12 50 = 0 from by omega, show (vup (vup (vup σ457 72 (σ457 12 48) 20) 12 48 ((σ457 12 48) + 1)) 12 49 z471) 72 = ful (σ457 72) (σ457 12 48) 20 from vup_f]
                    exact zIw_push h468 (by omega) (by omega)
                  exact ih (vup (vup (vup σ457 72 (σ457 12 48) 20) 12 48 ((σ457 12 48) + 1)) 12 49 z471) (u + 1) (show 4 * (20 - σ457 12 47) + 2 * (u + 1) + σ457 12 50 < (m : Int) from by omega) hF (vX_fr a458 rfl rfl) (show 0 ≤ σ457 12 50 ∧ σ457 12 50 ≤ 1 from by omega) (show σ457 12 2 = 0 from by omega)
                · refine And.intro (show Int.negSucc 2147483647 ≤ 4 ∧ 4 ≤ 2147483647 from rgm (by omega)) ?_
                  have f474 : 0 ≤ σ 12 12 ∧ σ 12 12 ≤ 940 := zf B hb (t := 12) (f := 12) (by decide +kernel)
                  refine And.intro (show Int.negSucc 2147483647 ≤ (σ 12 12) ∧ (σ 12 12) ≤ 2147483647 from rgm (by omega)) ?_
                  refine And.intro (show 0 ≤ 0 ∧ 0 ≤ 1 from by omega) ?_
                  refine And.intro (show 0 ≤ 0 ∧ 0 ≤ 1 from by omega) ?_
                  refine And.intro (fun (q : ¬ 0 = 0) => absurd q (by decide)) (fun _ => ?_)
                  refine fun (z475 : Int) (h476 : -2147483648 ≤ z475 ∧ z475 ≤ 2147483647) (e477 : z475 = vsub (-1) (σ 12 12)) => ?_
                  show K (some (.inl z475)) (vup (vup σ 12 15 4) 12 16 (σ 12 12))
                  exact hK _ _ (by omega) (vX_fr hX rfl rfl) (show σ 12 2 = 0 from by omega)
            · refine fun (z478 : Int) (h479 : -1 ≤ z478 ∧ z478 ≤ 7) => ?_
              refine And.intro (fun _ => ?_) (fun (q : 1 = 0) => absurd q (by decide))
              have f480 : (-2147483648) ≤ σ 12 47 ∧ σ 12 47 ≤ 2147483647 := zf B hb (t := 12) (f := 47) (by decide +kernel)
              refine And.intro (fun (c481 : (σ 12 47) = 20) => ?_) (fun (c482 : ¬ (σ 12 47) = 20) => ?_)
              · refine And.intro (show Int.negSucc 2147483647 ≤ 4 ∧ 4 ≤ 2147483647 from rgm (by omega)) ?_
                have f483 : 0 ≤ σ 12 12 ∧ σ 12 12 ≤ 940 := zf B hb (t := 12) (f := 12) (by decide +kernel)
                refine And.intro (show Int.negSucc 2147483647 ≤ (σ 12 12) ∧ (σ 12 12) ≤ 2147483647 from rgm (by omega)) ?_
                refine And.intro (show 0 ≤ 0 ∧ 0 ≤ 1 from by omega) ?_
                refine And.intro (show 0 ≤ 0 ∧ 0 ≤ 1 from by omega) ?_
                refine And.intro (fun (q : ¬ 0 = 0) => absurd q (by decide)) (fun _ => ?_)
                refine fun (z484 : Int) (h485 : -2147483648 ≤ z484 ∧ z484 ≤ 2147483647) (e486 : z484 = vsub (-1) (σ 12 12)) => ?_
                show K (some (.inl z484)) (vup (vup σ 12 15 4) 12 16 (σ 12 12))
                exact hK _ _ (by omega) (vX_fr hX rfl rfl) (show σ 12 2 = 0 from by omega)
              · have f487 : (-2147483648) ≤ σ 12 49 ∧ σ 12 49 ≤ 2147483647 := zf B hb (t := 12) (f := 49) (by decide +kernel)
                refine And.intro (fun (c488 : (σ 12 49) ≤ 8) => ?_) (fun (c489 : 8 < (σ 12 49)) => ?_)
                · refine And.intro (show -2147483648 ≤ ((σ 12 47) + 1) ∧ ((σ 12 47) + 1) ≤ 2147483647 from by omega) ?_
                  refine And.intro (show Int.negSucc 2147483647 ≤ ((σ 12 47) + 1) ∧ ((σ 12 47) + 1) ≤ 2147483647 from rgm (by omega)) ?_
                  refine And.intro (show vX (vup σ 12 47 ((σ 12 47) + 1)) from vX_fr hX rfl rfl) (And.intro (by decide +kernel) (fun (σ490 : vS) (a491 : vX σ490) (a492 : vBd (zso E) gST zuq σ490) (a493 : vFm zuq md271 (vup σ 12 47 ((σ 12 47) + 1)) σ490) => ?_))
                  have e494 : σ490 12 46 = σ 12 46 := vFm_fl a493 (t := 12) (f := 46) rfl (by decide +kernel)
                  have e495 : σ490 12 48 = σ 12 48 := vFm_fl a493 (t := 12) (f := 48) rfl (by decide +kernel)
                  have e496 : σ490 12 47 = (σ 12 47) + 1 := vFm_fl a493 (t := 12) (f := 47) rfl (by decide +kernel)
                  have e497 : σ490 12 50 = σ 12 50 := vFm_fl a493 (t := 12) (f := 50) rfl (by decide +kernel)
                  have e498 : σ490 12 2 = σ 12 2 := vFm_fl a493 (t := 12) (f := 2) rfl (by decide +kernel)
                  have e499 : σ490 72 = σ 72 := vFm_at a493 rfl (by decide +kernel)
                  have e500 : σ490 54 = σ 54 := vFm_at a493 rfl (by decide +kernel)
                  have h501 : zIw (σ490 54) (σ490 72) (σ490 12 46) (σ490 12 48) (σ 12 47) 0 u := by rw [e500, e499, e494, e495]; exact (hI0 (by omega))
                  refine And.intro (fun _ => ?_) (fun (q : 1 = 0) => absurd q (by decide))
                  have f502 : 0 ≤ σ490 12 48 ∧ σ490 12 48 ≤ 45 := zf B a492 (t := 12) (f := 48) (by decide +kernel)
                  refine And.intro (fun (q : 1 = 0) => absurd q (by decide)) (fun _ => ?_)
                  refine And.intro (show 0 ≤ (σ490 12 48) ∧ (σ490 12 48) < 45 from by omega) ?_
                  refine And.intro (show Int.negSucc 2147483647 ≤ 20 ∧ 20 ≤ 2147483647 from rgm (by omega)) ?_
                  refine And.intro (show -2147483648 ≤ ((σ490 12 48) + 1) ∧ ((σ490 12 48) + 1) ≤ 2147483647 from by omega) ?_
                  refine And.intro (show 0 ≤ ((σ490 12 48) + 1) ∧ ((σ490 12 48) + 1) ≤ 45 from by omega) ?_
                  have f503 : (-2147483648) ≤ σ490 12 49 ∧ σ490 12 49 ≤ 2147483647 := zf B a492 (t := 12) (f := 49) (by decide +kernel)
                  refine fun (z504 : Int) (h505 : -2147483648 ≤ z504 ∧ z504 ≤ 2147483647) (e506 : z504 = vadd (σ490 12 49) 1) => ?_
                  refine And.intro (show Int.negSucc 2147483647 ≤ z504 ∧ z504 ≤ 2147483647 from rgm (by omega)) ?_
                  refine And.intro (show 0 ≤ 1 ∧ 1 ≤ 1 from by omega) ?_
                  refine And.intro (fun _ => ?_) (fun (q : 1 = 0) => absurd q (by decide))
                  show zG E gJ1 md268 w gm_268 48 [(0, .inr (.inl 12)), (1, .inl 1)] (vup (vup (vup σ490 72 (σ490 12 48) 20) 12 48 ((σ490 12 48) + 1)) 12 49 z504) K
                  have hF : zIv (vup (vup (vup σ490 72 (σ490 12 48) 20) 12 48 ((σ490 12 48) + 1)) 12 49 z504) (u + 1) := by
                    show zIw (σ490 54) ((vup (vup (vup σ490 72 (σ490 12 48) 20) 12 48 ((σ490 12 48) + 1)) 12 49 z504) 72) (σ490 12 46) (σ490 12 48 + 1) (σ490 12 47) (σ490 12 50) (u + 1)
                    rw [show σ490 12 47 = σ 12 47 + 1 from by omega, show σ490 12 50 = 0 from by omega, show (vup (vup (vup σ490 72 (σ490 12 48) 20) 12 48 ((σ490 12 48) + 1)) 12 49 z504) 72 = ful (σ490 72) (σ490 12 48) 20 from vup_f]
                    exact zIw_push h501 (by omega) (by omega)
                  exact ih (vup (vup (vup σ490 72 (σ490 12 48) 20) 12 48 ((σ490 12 48) + 1)) 12 49 z504) (u + 1) (show 4 * (20 - σ490 12 47) + 2 * (u + 1) + σ490 12 50 < (m : Int) from by omega) hF (vX_fr a491 rfl rfl) (show 0 ≤ σ490 12 50 ∧ σ490 12 50 ≤ 1 from by omega) (show σ490 12 2 = 0 from by omega)
                · refine And.intro (show Int.negSucc 2147483647 ≤ 4 ∧ 4 ≤ 2147483647 from rgm (by omega)) ?_
                  have f507 : 0 ≤ σ 12 12 ∧ σ 12 12 ≤ 940 := zf B hb (t := 12) (f := 12) (by decide +kernel)
                  refine And.intro (show Int.negSucc 2147483647 ≤ (σ 12 12) ∧ (σ 12 12) ≤ 2147483647 from rgm (by omega)) ?_
                  refine And.intro (show 0 ≤ 0 ∧ 0 ≤ 1 from by omega) ?_
                  refine And.intro (show 0 ≤ 0 ∧ 0 ≤ 1 from by omega) ?_
                  refine And.intro (fun (q : ¬ 0 = 0) => absurd q (by decide)) (fun _ => ?_)
                  refine fun (z508 : Int) (h509 : -2147483648 ≤ z508 ∧ z508 ≤ 2147483647) (e510 : z508 = vsub (-1) (σ 12 12)) => ?_
                  show K (some (.inl z508)) (vup (vup σ 12 15 4) 12 16 (σ 12 12))
                  exact hK _ _ (by omega) (vX_fr hX rfl rfl) (show σ 12 2 = 0 from by omega)
        · refine Exists.intro u (And.intro (And.intro hI (by omega)) (fun (u511 : Int) (σ512 : vS) (a513 : u511 ≤ u) (a514 : zIv σ512 u511) (a515 : zfd σ σ512) => ?_))
          have x516 : vX σ512 := vX_fr hX (a515.1 52 (by decide) (by decide)) (a515.1 74 (by decide) (by decide))
          have e517 : σ512 12 47 = σ 12 47 := a515.2 47 (by decide) (by decide) (by decide)
          have e518 : σ512 12 50 = σ 12 50 := a515.2 50 (by decide) (by decide) (by decide)
          have e523 : σ512 12 2 = σ 12 2 := a515.2 2 (by decide) (by decide) (by decide)
          have e521 : σ512 12 12 = σ 12 12 := a515.2 12 (by decide) (by decide) (by decide)
          have f522 : 0 ≤ σ 12 12 ∧ σ 12 12 ≤ 940 := zf B hb (t := 12) (f := 12) (by decide +kernel)
          refine fun (z524 : Int) (h525 : z524 = 0 ∨ z524 = 1) => ?_
          rcases h525 with rfl | rfl
          · refine And.intro (fun (q : ¬ 0 = 0) => absurd q (by decide)) (fun _ => ?_)
            refine fun (z526 : Int) (h527 : z526 = 0 ∨ z526 = 1) => ?_
            rcases h527 with rfl | rfl
            · refine And.intro (fun _ => ?_) (fun (q : ¬ 0 = 0) => absurd q (by decide))
              refine Exists.intro u511 (And.intro (And.intro a514 (by omega)) (fun (σ528 : vS) (a529 : zIv σ528 u511) (a530 : zfd σ512 σ528) (a531 : 22 = 22 → σ528 12 48 ≤ 0 ∨ ¬ zj (σ528 72) (σ528 12 48 - 1)) => ?_))
              have x532 : vX σ528 := vX_fr x516 (a530.1 52 (by decide) (by decide)) (a530.1 74 (by decide) (by decide))
              have e533 : σ528 12 47 = σ512 12 47 := a530.2 47 (by decide) (by decide) (by decide)
              have e534 : σ528 12 50 = σ512 12 50 := a530.2 50 (by decide) (by decide) (by decide)
              have e537 : σ528 12 50 = 1 := by omega
              have h535 : zIw (σ528 54) (σ528 72) (σ528 12 46) (σ528 12 48) (σ528 12 47) 1 u511 := by
                rw [← e537]
                exact a529
              have h536 := zIw_b h535 (by omega)
              have e539 : σ528 12 2 = σ512 12 2 := a530.2 2 (by decide) (by decide) (by decide)
              have e538 : σ528 12 12 = σ512 12 12 := a530.2 12 (by decide) (by decide) (by decide)
              refine fun (z540 : Int) (h541 : z540 = 0 ∨ z540 = 1) => ?_
              rcases h541 with rfl | rfl
              · refine And.intro (fun _ => ?_) (fun (q : ¬ 0 = 0) => absurd q (by decide))
                refine And.intro (show Int.negSucc 2147483647 ≤ 1 ∧ 1 ≤ 2147483647 from rgm (by omega)) ?_
                refine And.intro (show Int.negSucc 2147483647 ≤ (σ528 12 12) ∧ (σ528 12 12) ≤ 2147483647 from rgm (by omega)) ?_
                refine And.intro (show 0 ≤ 0 ∧ 0 ≤ 1 from by omega) ?_
                refine And.intro (show 0 ≤ 0 ∧ 0 ≤ 1 from by omega) ?_
                refine And.intro (fun (q : ¬ 0 = 0) => absurd q (by decide)) (fun _ => ?_)
                refine fun (z542 : Int) (h543 : -2147483648 ≤ z542 ∧ z542 ≤ 2147483647) (e544 : z542 = vsub (-1) (σ528 12 12)) => ?_
                show K (some (.inl z542)) (vup (vup σ528 12 15 1) 12 16 (σ528 12 12))
                exact hK _ _ (by omega) (vX_fr x532 rfl rfl) (show σ528 12 2 = 0 from by omega)
              · refine And.intro (fun (q : 1 = 0) => absurd q (by decide)) (fun _ => ?_)
                refine And.intro (fun (c545 : ¬ (σ528 12 48) = 0) => ?_) (fun (c546 : (σ528 12 48) = 0) => ?_)
                · refine And.intro (show -2147483648 ≤ ((σ528 12 48) - 1) ∧ ((σ528 12 48) - 1) ≤ 2147483647 from by omega) ?_
                  refine And.intro (show 0 ≤ ((σ528 12 48) - 1) ∧ ((σ528 12 48) - 1) ≤ 45 from by omega) ?_
                  refine fun (z547 : Int) (h548 : -2147483648 ≤ z547 ∧ z547 ≤ 2147483647) (e549 : z547 = vsub (σ528 12 49) 1) => ?_
                  refine And.intro (show Int.negSucc 2147483647 ≤ z547 ∧ z547 ≤ 2147483647 from rgm (by omega)) ?_
                  refine And.intro (show vX (vup (vup σ528 12 48 ((σ528 12 48) - 1)) 12 49 z547) from vX_fr x532 rfl rfl) (And.intro (by decide +kernel) (fun (σ550 : vS) (a551 : vX σ550) (a552 : vBd (zso E) gST zuq σ550) (a553 : vFm zuq md271 (vup (vup σ528 12 48 ((σ528 12 48) - 1)) 12 49 z547) σ550) => ?_))
                  have e554 : σ550 12 46 = σ528 12 46 := vFm_fl a553 (t := 12) (f := 46) rfl (by decide +kernel)
                  have e555 : σ550 12 48 = (σ528 12 48) - 1 := vFm_fl a553 (t := 12) (f := 48) rfl (by decide +kernel)
                  have e556 : σ550 12 47 = σ528 12 47 := vFm_fl a553 (t := 12) (f := 47) rfl (by decide +kernel)
                  have e557 : σ550 12 50 = σ528 12 50 := vFm_fl a553 (t := 12) (f := 50) rfl (by decide +kernel)
                  have e558 : σ550 12 2 = σ528 12 2 := vFm_fl a553 (t := 12) (f := 2) rfl (by decide +kernel)
                  have e559 : σ550 72 = σ528 72 := vFm_at a553 rfl (by decide +kernel)
                  have e560 : σ550 54 = σ528 54 := vFm_at a553 rfl (by decide +kernel)
                  have h561 : zIw (σ550 54) (σ550 72) (σ550 12 46) (σ550 12 48) (σ550 12 47) (σ550 12 50) (u511 - 1) := by
                    rw [e560, e559, e554, e555, e556, e557, e537]
                    exact zIw_pop h535 (by omega) ((a531 rfl).resolve_left (by omega))
                  refine And.intro (show 0 ≤ 1 ∧ 1 ≤ 1 from by omega) ?_
                  refine And.intro (fun _ => ?_) (fun (q : 1 = 0) => absurd q (by decide))
                  show zG E gJ1 md268 w gm_268 48 [(0, .inr (.inl 12)), (1, .inl 1)] σ550 K
                  exact ih σ550 (u511 - 1) (by omega) h561 a551 (by omega) (by omega)
                · refine And.intro (show Int.negSucc 2147483647 ≤ 1 ∧ 1 ≤ 2147483647 from rgm (by omega)) ?_
                  refine And.intro (show Int.negSucc 2147483647 ≤ (σ528 12 12) ∧ (σ528 12 12) ≤ 2147483647 from rgm (by omega)) ?_
                  refine And.intro (show 0 ≤ 0 ∧ 0 ≤ 1 from by omega) ?_
                  refine And.intro (show 0 ≤ 0 ∧ 0 ≤ 1 from by omega) ?_
                  refine And.intro (fun (q : ¬ 0 = 0) => absurd q (by decide)) (fun _ => ?_)
                  refine fun (z562 : Int) (h563 : -2147483648 ≤ z562 ∧ z562 ≤ 2147483647) (e564 : z562 = vsub (-1) (σ528 12 12)) => ?_
                  show K (some (.inl z562)) (vup (vup σ528 12 15 1) 12 16 (σ528 12 12))
                  exact hK _ _ (by omega) (vX_fr x532 rfl rfl) (show σ528 12 2 = 0 from by omega)
            · refine And.intro (fun (q : 1 = 0) => absurd q (by decide)) (fun _ => ?_)
              refine fun (z565 : Int) (h566 : z565 = 0 ∨ z565 = 1) => ?_
              rcases h566 with rfl | rfl
              · refine And.intro (fun _ => ?_) (fun (q : ¬ 0 = 0) => absurd q (by decide))
                refine Exists.intro u511 (And.intro (And.intro a514 (by omega)) (fun (σ567 : vS) (a568 : zIv σ567 u511) (a569 : zfd σ512 σ567) (a570 : 22 = 22 → σ567 12 48 ≤ 0 ∨ ¬ zj (σ567 72) (σ567 12 48 - 1)) => ?_))
                have x571 : vX σ567 := vX_fr x516 (a569.1 52 (by decide) (by decide)) (a569.1 74 (by decide) (by decide))
                have e572 : σ567 12 47 = σ512 12 47 := a569.2 47 (by decide) (by decide) (by decide)
                have e573 : σ567 12 50 = σ512 12 50 := a569.2 50 (by decide) (by decide) (by decide)
                have e576 : σ567 12 50 = 1 := by omega
                have h574 : zIw (σ567 54) (σ567 72) (σ567 12 46) (σ567 12 48) (σ567 12 47) 1 u511 := by
                  rw [← e576]
                  exact a568
                have h575 := zIw_b h574 (by omega)
                have e578 : σ567 12 2 = σ512 12 2 := a569.2 2 (by decide) (by decide) (by decide)
                have e577 : σ567 12 12 = σ512 12 12 := a569.2 12 (by decide) (by decide) (by decide)
                refine fun (z579 : Int) (h580 : z579 = 0 ∨ z579 = 1) => ?_
                rcases h580 with rfl | rfl
                · refine And.intro (fun _ => ?_) (fun (q : ¬ 0 = 0) => absurd q (by decide))
                  refine And.intro (show 0 ≤ (σ567 12 48) ∧ (σ567 12 48) < 45 from by omega) ?_
                  refine And.intro (show Int.negSucc 2147483647 ≤ 22 ∧ 22 ≤ 2147483647 from rgm (by omega)) ?_
                  refine And.intro (show -2147483648 ≤ ((σ567 12 48) + 1) ∧ ((σ567 12 48) + 1) ≤ 2147483647 from by omega) ?_
                  refine And.intro (show 0 ≤ ((σ567 12 48) + 1) ∧ ((σ567 12 48) + 1) ≤ 45 from by omega) ?_
                  refine And.intro (show 0 ≤ 0 ∧ 0 ≤ 1 from by omega) ?_
                  refine And.intro (show 0 ≤ 0 ∧ 0 ≤ 1 from by omega) ?_
                  refine And.intro (show vX (vup (vup (vup σ567 72 (σ567 12 48) 22) 12 48 ((σ567 12 48) + 1)) 12 50 0) from vX_fr x571 rfl rfl) (And.intro (by decide +kernel) (fun (σ581 : vS) (a582 : vX σ581) (a583 : vBd (zso E) gST zuq σ581) (a584 : vFm zuq md271 (vup (vup (vup σ567 72 (σ567 12 48) 22) 12 48 ((σ567 12 48) + 1)) 12 50 0) σ581) => ?_))
                  have e585 : σ581 12 46 = σ567 12 46 := vFm_fl a584 (t := 12) (f := 46) rfl (by decide +kernel)
                  have e586 : σ581 12 48 = (σ567 12 48) + 1 := vFm_fl a584 (t := 12) (f := 48) rfl (by decide +kernel)
                  have e587 : σ581 12 47 = σ567 12 47 := vFm_fl a584 (t := 12) (f := 47) rfl (by decide +kernel)
                  have e588 : σ581 12 50 = 0 := vFm_fl a584 (t := 12) (f := 50) rfl (by decide +kernel)
                  have e589 : σ581 12 2 = σ567 12 2 := vFm_fl a584 (t := 12) (f := 2) rfl (by decide +kernel)
                  have e590 : σ581 72 = (vup (vup (vup σ567 72 (σ567 12 48) 22) 12 48 ((σ567 12 48) + 1)) 12 50 0) 72 := vFm_at a584 rfl (by decide +kernel)
                  have e591 : σ581 54 = σ567 54 := vFm_at a584 rfl (by decide +kernel)
                  have h592 : zIw (σ581 54) (σ581 72) (σ581 12 46) (σ581 12 48) (σ581 12 47) (σ581 12 50) u511 := by
                    rw [e591, e590, e585, e586, e587, e588, show (vup (vup (vup σ567 72 (σ567 12 48) 22) 12 48 ((σ567 12 48) + 1)) 12 50 0) 72 = ful (σ567 72) (σ567 12 48) 22 from vup_f]
                    exact zIw_op h574 (by omega)
                  refine And.intro (show 0 ≤ 1 ∧ 1 ≤ 1 from by omega) ?_
                  refine And.intro (fun _ => ?_) (fun (q : 1 = 0) => absurd q (by decide))
                  show zG E gJ1 md268 w gm_268 48 [(0, .inr (.inl 12)), (1, .inl 1)] σ581 K
                  exact ih σ581 u511 (by omega) h592 a582 (by omega) (by omega)
                · refine And.intro (fun (q : 1 = 0) => absurd q (by decide)) (fun _ => ?_)
                  refine And.intro (show 0 ≤ (σ567 12 48) ∧ (σ567 12 48) < 45 from by omega) ?_
                  refine And.intro (show Int.negSucc 2147483647 ≤ 21 ∧ 21 ≤ 2147483647 from rgm (by omega)) ?_
                  refine And.intro (show -2147483648 ≤ ((σ567 12 48) + 1) ∧ ((σ567 12 48) + 1) ≤ 2147483647 from by omega) ?_
                  refine And.intro (show 0 ≤ ((σ567 12 48) + 1) ∧ ((σ567 12 48) + 1) ≤ 45 from by omega) ?_
                  refine And.intro (show 0 ≤ 0 ∧ 0 ≤ 1 from by omega) ?_
                  refine And.intro (show 0 ≤ 0 ∧ 0 ≤ 1 from by omega) ?_
                  refine And.intro (show vX (vup (vup (vup σ567 72 (σ567 12 48) 21) 12 48 ((σ567 12 48) + 1)) 12 50 0) from vX_fr x571 rfl rfl) (And.intro (by decide +kernel) (fun (σ593 : vS) (a594 : vX σ593) (a595 : vBd (zso E) gST zuq σ593) (a596 : vFm zuq md271 (vup (vup (vup σ567 72 (σ567 12 48) 21) 12 48 ((σ567 12 48) + 1)) 12 50 0) σ593) => ?_))
                  have e597 : σ593 12 46 = σ567 12 46 := vFm_fl a596 (t := 12) (f := 46) rfl (by decide +kernel)
                  have e598 : σ593 12 48 = (σ567 12 48) + 1 := vFm_fl a596 (t := 12) (f := 48) rfl (by decide +kernel)
                  have e599 : σ593 12 47 = σ567 12 47 := vFm_fl a596 (t := 12) (f := 47) rfl (by decide +kernel)
                  have e600 : σ593 12 50 = 0 := vFm_fl a596 (t := 12) (f := 50) rfl (by decide +kernel)
                  have e601 : σ593 12 2 = σ567 12 2 := vFm_fl a596 (t := 12) (f := 2) rfl (by decide +kernel)
                  have e602 : σ593 72 = (vup (vup (vup σ567 72 (σ567 12 48) 21) 12 48 ((σ567 12 48) + 1)) 12 50 0) 72 := vFm_at a596 rfl (by decide +kernel)
                  have e603 : σ593 54 = σ567 54 := vFm_at a596 rfl (by decide +kernel)
                  have h604 : zIw (σ593 54) (σ593 72) (σ593 12 46) (σ593 12 48) (σ593 12 47) (σ593 12 50) u511 := by
                    rw [e603, e602, e597, e598, e599, e600, show (vup (vup (vup σ567 72 (σ567 12 48) 21) 12 48 ((σ567 12 48) + 1)) 12 50 0) 72 = ful (σ567 72) (σ567 12 48) 21 from vup_f]
                    exact zIw_op h574 (by omega)
                  refine And.intro (show 0 ≤ 1 ∧ 1 ≤ 1 from by omega) ?_
                  refine And.intro (fun _ => ?_) (fun (q : 1 = 0) => absurd q (by decide))
                  show zG E gJ1 md268 w gm_268 48 [(0, .inr (.inl 12)), (1, .inl 1)] σ593 K
                  exact ih σ593 u511 (by omega) h604 a594 (by omega) (by omega)
              · refine And.intro (fun (q : 1 = 0) => absurd q (by decide)) (fun _ => ?_)
                refine Exists.intro u511 (And.intro (And.intro a514 (by omega)) (fun (σ605 : vS) (a606 : zIv σ605 u511) (a607 : zfd σ512 σ605) (a608 : 21 = 22 → σ605 12 48 ≤ 0 ∨ ¬ zj (σ605 72) (σ605 12 48 - 1)) => ?_))
                have x609 : vX σ605 := vX_fr x516 (a607.1 52 (by decide) (by decide)) (a607.1 74 (by decide) (by decide))
                have e610 : σ605 12 47 = σ512 12 47 := a607.2 47 (by decide) (by decide) (by decide)
                have e611 : σ605 12 50 = σ512 12 50 := a607.2 50 (by decide) (by decide) (by decide)
                have e614 : σ605 12 50 = 1 := by omega
                have h612 : zIw (σ605 54) (σ605 72) (σ605 12 46) (σ605 12 48) (σ605 12 47) 1 u511 := by
                  rw [← e614]
                  exact a606
                have h613 := zIw_b h612 (by omega)
                have e616 : σ605 12 2 = σ512 12 2 := a607.2 2 (by decide) (by decide) (by decide)
                have e615 : σ605 12 12 = σ512 12 12 := a607.2 12 (by decide) (by decide) (by decide)
                refine fun (z617 : Int) (h618 : z617 = 0 ∨ z617 = 1) => ?_
                rcases h618 with rfl | rfl
                · refine And.intro (fun _ => ?_) (fun (q : ¬ 0 = 0) => absurd q (by decide))
                  refine And.intro (show 0 ≤ (σ605 12 48) ∧ (σ605 12 48) < 45 from by omega) ?_
                  refine And.intro (show Int.negSucc 2147483647 ≤ 22 ∧ 22 ≤ 2147483647 from rgm (by omega)) ?_
                  refine And.intro (show -2147483648 ≤ ((σ605 12 48) + 1) ∧ ((σ605 12 48) + 1) ≤ 2147483647 from by omega) ?_
                  refine And.intro (show 0 ≤ ((σ605 12 48) + 1) ∧ ((σ605 12 48) + 1) ≤ 45 from by omega) ?_
                  refine And.intro (show 0 ≤ 0 ∧ 0 ≤ 1 from by omega) ?_
                  refine And.intro (show 0 ≤ 0 ∧ 0 ≤ 1 from by omega) ?_
                  refine And.intro (show vX (vup (vup (vup σ605 72 (σ605 12 48) 22) 12 48 ((σ605 12 48) + 1)) 12 50 0) from vX_fr x609 rfl rfl) (And.intro (by decide +kernel) (fun (σ619 : vS) (a620 : vX σ619) (a621 : vBd (zso E) gST zuq σ619) (a622 : vFm zuq md271 (vup (vup (vup σ605 72 (σ605 12 48) 22) 12 48 ((σ605 12 48) + 1)) 12 50 0) σ619) => ?_))
                  have e623 : σ619 12 46 = σ605 12 46 := vFm_fl a622 (t := 12) (f := 46) rfl (by decide +kernel)
                  have e624 : σ619 12 48 = (σ605 12 48) + 1 := vFm_fl a622 (t := 12) (f := 48) rfl (by decide +kernel)
                  have e625 : σ619 12 47 = σ605 12 47 := vFm_fl a622 (t := 12) (f := 47) rfl (by decide +kernel)
                  have e626 : σ619 12 50 = 0 := vFm_fl a622 (t := 12) (f := 50) rfl (by decide +kernel)
                  have e627 : σ619 12 2 = σ605 12 2 := vFm_fl a622 (t := 12) (f := 2) rfl (by decide +kernel)
                  have e628 : σ619 72 = (vup (vup (vup σ605 72 (σ605 12 48) 22) 12 48 ((σ605 12 48) + 1)) 12 50 0) 72 := vFm_at a622 rfl (by decide +kernel)
                  have e629 : σ619 54 = σ605 54 := vFm_at a622 rfl (by decide +kernel)
                  have h630 : zIw (σ619 54) (σ619 72) (σ619 12 46) (σ619 12 48) (σ619 12 47) (σ619 12 50) u511 := by
                    rw [e629, e628, e623, e624, e625, e626, show (vup (vup (vup σ605 72 (σ605 12 48) 22) 12 48 ((σ605 12 48) + 1)) 12 50 0) 72 = ful (σ605 72) (σ605 12 48) 22 from vup_f]
                    exact zIw_op h612 (by omega)
                  refine And.intro (show 0 ≤ 1 ∧ 1 ≤ 1 from by omega) ?_
                  refine And.intro (fun _ => ?_) (fun (q : 1 = 0) => absurd q (by decide))
                  show zG E gJ1 md268 w gm_268 48 [(0, .inr (.inl 12)), (1, .inl 1)] σ619 K
                  exact ih σ619 u511 (by omega) h630 a620 (by omega) (by omega)
                · refine And.intro (fun (q : 1 = 0) => absurd q (by decide)) (fun _ => ?_)
                  refine And.intro (show 0 ≤ (σ605 12 48) ∧ (σ605 12 48) < 45 from by omega) ?_
                  refine And.intro (show Int.negSucc 2147483647 ≤ 21 ∧ 21 ≤ 2147483647 from rgm (by omega)) ?_
                  refine And.intro (show -2147483648 ≤ ((σ605 12 48) + 1) ∧ ((σ605 12 48) + 1) ≤ 2147483647 from by omega) ?_
                  refine And.intro (show 0 ≤ ((σ605 12 48) + 1) ∧ ((σ605 12 48) + 1) ≤ 45 from by omega) ?_
                  refine And.intro (show 0 ≤ 0 ∧ 0 ≤ 1 from by omega) ?_
                  refine And.intro (show 0 ≤ 0 ∧ 0 ≤ 1 from by omega) ?_
                  refine And.intro (show vX (vup (vup (vup σ605 72 (σ605 12 48) 21) 12 48 ((σ605 12 48) + 1)) 12 50 0) from vX_fr x609 rfl rfl) (And.intro (by decide +kernel) (fun (σ631 : vS) (a632 : vX σ631) (a633 : vBd (zso E) gST zuq σ631) (a634 : vFm zuq md271 (vup (vup (vup σ605 72 (σ605 12 48) 21) 12 48 ((σ605 12 48) + 1)) 12 50 0) σ631) => ?_))
                  have e635 : σ631 12 46 = σ605 12 46 := vFm_fl a634 (t := 12) (f := 46) rfl (by decide +kernel)
                  have e636 : σ631 12 48 = (σ605 12 48) + 1 := vFm_fl a634 (t := 12) (f := 48) rfl (by decide +kernel)
                  have e637 : σ631 12 47 = σ605 12 47 := vFm_fl a634 (t := 12) (f := 47) rfl (by decide +kernel)
                  have e638 : σ631 12 50 = 0 := vFm_fl a634 (t := 12) (f := 50) rfl (by decide +kernel)
                  have e639 : σ631 12 2 = σ605 12 2 := vFm_fl a634 (t := 12) (f := 2) rfl (by decide +kernel)
                  have e640 : σ631 72 = (vup (vup (vup σ605 72 (σ605 12 48) 21) 12 48 ((σ605 12 48) + 1)) 12 50 0) 72 := vFm_at a634 rfl (by decide +kernel)
                  have e641 : σ631 54 = σ605 54 := vFm_at a634 rfl (by decide +kernel)
                  have h642 : zIw (σ631 54) (σ631 72) (σ631 12 46) (σ631 12 48) (σ631 12 47) (σ631 12 50) u511 := by
                    rw [e641, e640, e635, e636, e637, e638, show (vup (vup (vup σ605 72 (σ605 12 48) 21) 12 48 ((σ605 12 48) + 1)) 12 50 0) 72 = ful (σ605 72) (σ605 12 48) 21 from vup_f]
                    exact zIw_op h612 (by omega)
                  refine And.intro (show 0 ≤ 1 ∧ 1 ≤ 1 from by omega) ?_
                  refine And.intro (fun _ => ?_) (fun (q : 1 = 0) => absurd q (by decide))
                  show zG E gJ1 md268 w gm_268 48 [(0, .inr (.inl 12)), (1, .inl 1)] σ631 K
                  exact ih σ631 u511 (by omega) h642 a632 (by omega) (by omega)
          · refine And.intro (fun _ => ?_) (fun (q : 1 = 0) => absurd q (by decide))
            refine fun (z643 : Int) (h644 : z643 = 0 ∨ z643 = 1) => ?_
            rcases h644 with rfl | rfl
            · refine And.intro (fun _ => ?_) (fun (q : ¬ 0 = 0) => absurd q (by decide))
              refine Exists.intro u511 (And.intro (And.intro a514 (by omega)) (fun (σ645 : vS) (a646 : zIv σ645 u511) (a647 : zfd σ512 σ645) (a648 : 22 = 22 → σ645 12 48 ≤ 0 ∨ ¬ zj (σ645 72) (σ645 12 48 - 1)) => ?_))
              have x649 : vX σ645 := vX_fr x516 (a647.1 52 (by decide) (by decide)) (a647.1 74 (by decide) (by decide))
              have e650 : σ645 12 47 = σ512 12 47 := a647.2 47 (by decide) (by decide) (by decide)
              have e651 : σ645 12 50 = σ512 12 50 := a647.2 50 (by decide) (by decide) (by decide)
              have e654 : σ645 12 50 = 1 := by omega
              have h652 : zIw (σ645 54) (σ645 72) (σ645 12 46) (σ645 12 48) (σ645 12 47) 1 u511 := by
                rw [← e654]
                exact a646
              have h653 := zIw_b h652 (by omega)
              have e656 : σ645 12 2 = σ512 12 2 := a647.2 2 (by decide) (by decide) (by decide)
              have e655 : σ645 12 12 = σ512 12 12 := a647.2 12 (by decide) (by decide) (by decide)
              refine fun (z657 : Int) (h658 : z657 = 0 ∨ z657 = 1) => ?_
              rcases h658 with rfl | rfl
              · refine And.intro (fun _ => ?_) (fun (q : ¬ 0 = 0) => absurd q (by decide))
                refine And.intro (show 0 ≤ (σ645 12 48) ∧ (σ645 12 48) < 45 from by omega) ?_
                refine And.intro (show Int.negSucc 2147483647 ≤ 22 ∧ 22 ≤ 2147483647 from rgm (by omega)) ?_
                refine And.intro (show -2147483648 ≤ ((σ645 12 48) + 1) ∧ ((σ645 12 48) + 1) ≤ 2147483647 from by omega) ?_
                refine And.intro (show 0 ≤ ((σ645 12 48) + 1) ∧ ((σ645 12 48) + 1) ≤ 45 from by omega) ?_
                refine And.intro (show 0 ≤ 0 ∧ 0 ≤ 1 from by omega) ?_
                refine And.intro (show 0 ≤ 0 ∧ 0 ≤ 1 from by omega) ?_
                refine And.intro (show vX (vup (vup (vup σ645 72 (σ645 12 48) 22) 12 48 ((σ645 12 48) + 1)) 12 50 0) from vX_fr x649 rfl rfl) (And.intro (by decide +kernel) (fun (σ659 : vS) (a660 : vX σ659) (a661 : vBd (zso E) gST zuq σ659) (a662 : vFm zuq md271 (vup (vup (vup σ645 72 (σ645 12 48) 22) 12 48 ((σ645 12 48) + 1)) 12 50 0) σ659) => ?_))
                have e663 : σ659 12 46 = σ645 12 46 := vFm_fl a662 (t := 12) (f := 46) rfl (by decide +kernel)
                have e664 : σ659 12 48 = (σ645 12 48) + 1 := vFm_fl a662 (t := 12) (f := 48) rfl (by decide +kernel)
                have e665 : σ659 12 47 = σ645 12 47 := vFm_fl a662 (t := 12) (f := 47) rfl (by decide +kernel)
                have e666 : σ659 12 50 = 0 := vFm_fl a662 (t := 12) (f := 50) rfl (by decide +kernel)
                have e667 : σ659 12 2 = σ645 12 2 := vFm_fl a662 (t := 12) (f := 2) rfl (by decide +kernel)
                have e668 : σ659 72 = (vup (vup (vup σ645 72 (σ645 12 48) 22) 12 48 ((σ645 12 48) + 1)) 12 50 0) 72 := vFm_at a662 rfl (by decide +kernel)
                have e669 : σ659 54 = σ645 54 := vFm_at a662 rfl (by decide +kernel)
                have h670 : zIw (σ659 54) (σ659 72) (σ659 12 46) (σ659 12 48) (σ659 12 47) (σ659 12 50) u511 := by
                  rw [e669, e668, e663, e664, e665, e666, show (vup (vup (vup σ645 72 (σ645 12 48) 22) 12 48 ((σ645 12 48) + 1)) 12 50 0) 72 = ful (σ645 72) (σ645 12 48) 22 from vup_f]
                  exact zIw_op h652 (by omega)
                refine And.intro (show 0 ≤ 1 ∧ 1 ≤ 1 from by omega) ?_
                refine And.intro (fun _ => ?_) (fun (q : 1 = 0) => absurd q (by decide))
                show zG E gJ1 md268 w gm_268 48 [(0, .inr (.inl 12)), (1, .inl 1)] σ659 K
                exact ih σ659 u511 (by omega) h670 a660 (by omega) (by omega)
              · refine And.intro (fun (q : 1 = 0) => absurd q (by decide)) (fun _ => ?_)
                refine And.intro (show 0 ≤ (σ645 12 48) ∧ (σ645 12 48) < 45 from by omega) ?_
                refine And.intro (show Int.negSucc 2147483647 ≤ 21 ∧ 21 ≤ 2147483647 from rgm (by omega)) ?_
                refine And.intro (show -2147483648 ≤ ((σ645 12 48) + 1) ∧ ((σ645 12 48) + 1) ≤ 2147483647 from by omega) ?_
                refine And.intro (show 0 ≤ ((σ645 12 48) + 1) ∧ ((σ645 12 48) + 1) ≤ 45 from by omega) ?_
                refine And.intro (show 0 ≤ 0 ∧ 0 ≤ 1 from by omega) ?_
                refine And.intro (show 0 ≤ 0 ∧ 0 ≤ 1 from by omega) ?_
                refine And.intro (show vX (vup (vup (vup σ645 72 (σ645 12 48) 21) 12 48 ((σ645 12 48) + 1)) 12 50 0) from vX_fr x649 rfl rfl) (And.intro (by decide +kernel) (fun (σ671 : vS) (a672 : vX σ671) (a673 : vBd (zso E) gST zuq σ671) (a674 : vFm zuq md271 (vup (vup (vup σ645 72 (σ645 12 48) 21) 12 48 ((σ645 12 48) + 1)) 12 50 0) σ671) => ?_))
                have e675 : σ671 12 46 = σ645 12 46 := vFm_fl a674 (t := 12) (f := 46) rfl (by decide +kernel)
                have e676 : σ671 12 48 = (σ645 12 48) + 1 := vFm_fl a674 (t := 12) (f := 48) rfl (by decide +kernel)
                have e677 : σ671 12 47 = σ645 12 47 := vFm_fl a674 (t := 12) (f := 47) rfl (by decide +kernel)
                have e678 : σ671 12 50 = 0 := vFm_fl a674 (t := 12) (f := 50) rfl (by decide +kernel)
                have e679 : σ671 12 2 = σ645 12 2 := vFm_fl a674 (t := 12) (f := 2) rfl (by decide +kernel)
                have e680 : σ671 72 = (vup (vup (vup σ645 72 (σ645 12 48) 21) 12 48 ((σ645 12 48) + 1)) 12 50 0) 72 := vFm_at a674 rfl (by decide +kernel)
                have e681 : σ671 54 = σ645 54 := vFm_at a674 rfl (by decide +kernel)
                have h682 : zIw (σ671 54) (σ671 72) (σ671 12 46) (σ671 12 48) (σ671 12 47) (σ671 12 50) u511 := by
                  rw [e681, e680, e675, e676, e677, e678, show (vup (vup (vup σ645 72 (σ645 12 48) 21) 12 48 ((σ645 12 48) + 1)) 12 50 0) 72 = ful (σ645 72) (σ645 12 48) 21 from vup_f]
                  exact zIw_op h652 (by omega)
                refine And.intro (show 0 ≤ 1 ∧ 1 ≤ 1 from by omega) ?_
                refine And.intro (fun _ => ?_) (fun (q : 1 = 0) => absurd q (by decide))
                show zG E gJ1 md268 w gm_268 48 [(0, .inr (.inl 12)), (1, .inl 1)] σ671 K
                exact ih σ671 u511 (by omega) h682 a672 (by omega) (by omega)
            · refine And.intro (fun (q : 1 = 0) => absurd q (by decide)) (fun _ => ?_)
              refine Exists.intro u511 (And.intro (And.intro a514 (by omega)) (fun (σ683 : vS) (a684 : zIv σ683 u511) (a685 : zfd σ512 σ683) (a686 : 21 = 22 → σ683 12 48 ≤ 0 ∨ ¬ zj (σ683 72) (σ683 12 48 - 1)) => ?_))
              have x687 : vX σ683 := vX_fr x516 (a685.1 52 (by decide) (by decide)) (a685.1 74 (by decide) (by decide))
              have e688 : σ683 12 47 = σ512 12 47 := a685.2 47 (by decide) (by decide) (by decide)
              have e689 : σ683 12 50 = σ512 12 50 := a685.2 50 (by decide) (by decide) (by decide)
              have e692 : σ683 12 50 = 1 := by omega
              have h690 : zIw (σ683 54) (σ683 72) (σ683 12 46) (σ683 12 48) (σ683 12 47) 1 u511 := by
                rw [← e692]
                exact a684
              have h691 := zIw_b h690 (by omega)
              have e694 : σ683 12 2 = σ512 12 2 := a685.2 2 (by decide) (by decide) (by decide)
              have e693 : σ683 12 12 = σ512 12 12 := a685.2 12 (by decide) (by decide) (by decide)
              refine fun (z695 : Int) (h696 : z695 = 0 ∨ z695 = 1) => ?_
              rcases h696 with rfl | rfl
              · refine And.intro (fun _ => ?_) (fun (q : ¬ 0 = 0) => absurd q (by decide))
                refine And.intro (show 0 ≤ (σ683 12 48) ∧ (σ683 12 48) < 45 from by omega) ?_
                refine And.intro (show Int.negSucc 2147483647 ≤ 22 ∧ 22 ≤ 2147483647 from rgm (by omega)) ?_
                refine And.intro (show -2147483648 ≤ ((σ683 12 48) + 1) ∧ ((σ683 12 48) + 1) ≤ 2147483647 from by omega) ?_
                refine And.intro (show 0 ≤ ((σ683 12 48) + 1) ∧ ((σ683 12 48) + 1) ≤ 45 from by omega) ?_
                refine And.intro (show 0 ≤ 0 ∧ 0 ≤ 1 from by omega) ?_
                refine And.intro (show 0 ≤ 0 ∧ 0 ≤ 1 from by omega) ?_
                refine And.intro (show vX (vup (vup (vup σ683 72 (σ683 12 48) 22) 12 48 ((σ683 12 48) + 1)) 12 50 0) from vX_fr x687 rfl rfl) (And.intro (by decide +kernel) (fun (σ697 : vS) (a698 : vX σ697) (a699 : vBd (zso E) gST zuq σ697) (a700 : vFm zuq md271 (vup (vup (vup σ683 72 (σ683 12 48) 22) 12 48 ((σ683 12 48) + 1)) 12 50 0) σ697) => ?_))
                have e701 : σ697 12 46 = σ683 12 46 := vFm_fl a700 (t := 12) (f := 46) rfl (by decide +kernel)
                have e702 : σ697 12 48 = (σ683 12 48) + 1 := vFm_fl a700 (t := 12) (f := 48) rfl (by decide +kernel)
                have e703 : σ697 12 47 = σ683 12 47 := vFm_fl a700 (t := 12) (f := 47) rfl (by decide +kernel)
                have e704 : σ697 12 50 = 0 := vFm_fl a700 (t := 12) (f := 50) rfl (by decide +kernel)
                have e705 : σ697 12 2 = σ683 12 2 := vFm_fl a700 (t := 12) (f := 2) rfl (by decide +kernel)
                have e706 : σ697 72 = (vup (vup (vup σ683 72 (σ683 12 48) 22) 12 48 ((σ683 12 48) + 1)) 12 50 0) 72 := vFm_at a700 rfl (by decide +kernel)
                have e707 : σ697 54 = σ683 54 := vFm_at a700 rfl (by decide +kernel)
                have h708 : zIw (σ697 54) (σ697 72) (σ697 12 46) (σ697 12 48) (σ697 12 47) (σ697 12 50) u511 := by
                  rw [e707, e706, e701, e702, e703, e704, show (vup (vup (vup σ683 72 (σ683 12 48) 22) 12 48 ((σ683 12 48) + 1)) 12 50 0) 72 = ful (σ683 72) (σ683 12 48) 22 from vup_f]
                  exact zIw_op h690 (by omega)
                refine And.intro (show 0 ≤ 1 ∧ 1 ≤ 1 from by omega) ?_
                refine And.intro (fun _ => ?_) (fun (q : 1 = 0) => absurd q (by decide))
                show zG E gJ1 md268 w gm_268 48 [(0, .inr (.inl 12)), (1, .inl 1)] σ697 K
                exact ih σ697 u511 (by omega) h708 a698 (by omega) (by omega)
              · refine And.intro (fun (q : 1 = 0) => absurd q (by decide)) (fun _ => ?_)
                refine And.intro (show 0 ≤ (σ683 12 48) ∧ (σ683 12 48) < 45 from by omega) ?_
                refine And.intro (show Int.negSucc 2147483647 ≤ 21 ∧ 21 ≤ 2147483647 from rgm (by omega)) ?_
                refine And.intro (show -2147483648 ≤ ((σ683 12 48) + 1) ∧ ((σ683 12 48) + 1) ≤ 2147483647 from by omega) ?_
                refine And.intro (show 0 ≤ ((σ683 12 48) + 1) ∧ ((σ683 12 48) + 1) ≤ 45 from by omega) ?_
                refine And.intro (show 0 ≤ 0 ∧ 0 ≤ 1 from by omega) ?_
                refine And.intro (show 0 ≤ 0 ∧ 0 ≤ 1 from by omega) ?_
                refine And.intro (show vX (vup (vup (vup σ683 72 (σ683 12 48) 21) 12 48 ((σ683 12 48) + 1)) 12 50 0) from vX_fr x687 rfl rfl) (And.intro (by decide +kernel) (fun (σ709 : vS) (a710 : vX σ709) (a711 : vBd (zso E) gST zuq σ709) (a712 : vFm zuq md271 (vup (vup (vup σ683 72 (σ683 12 48) 21) 12 48 ((σ683 12 48) + 1)) 12 50 0) σ709) => ?_))
                have e713 : σ709 12 46 = σ683 12 46 := vFm_fl a712 (t := 12) (f := 46) rfl (by decide +kernel)
                have e714 : σ709 12 48 = (σ683 12 48) + 1 := vFm_fl a712 (t := 12) (f := 48) rfl (by decide +kernel)
                have e715 : σ709 12 47 = σ683 12 47 := vFm_fl a712 (t := 12) (f := 47) rfl (by decide +kernel)
                have e716 : σ709 12 50 = 0 := vFm_fl a712 (t := 12) (f := 50) rfl (by decide +kernel)
                have e717 : σ709 12 2 = σ683 12 2 := vFm_fl a712 (t := 12) (f := 2) rfl (by decide +kernel)
                have e718 : σ709 72 = (vup (vup (vup σ683 72 (σ683 12 48) 21) 12 48 ((σ683 12 48) + 1)) 12 50 0) 72 := vFm_at a712 rfl (by decide +kernel)
                have e719 : σ709 54 = σ683 54 := vFm_at a712 rfl (by decide +kernel)
                have h720 : zIw (σ709 54) (σ709 72) (σ709 12 46) (σ709 12 48) (σ709 12 47) (σ709 12 50) u511 := by
                  rw [e719, e718, e713, e714, e715, e716, show (vup (vup (vup σ683 72 (σ683 12 48) 21) 12 48 ((σ683 12 48) + 1)) 12 50 0) 72 = ful (σ683 72) (σ683 12 48) 21 from vup_f]
                  exact zIw_op h690 (by omega)
                refine And.intro (show 0 ≤ 1 ∧ 1 ≤ 1 from by omega) ?_
                refine And.intro (fun _ => ?_) (fun (q : 1 = 0) => absurd q (by decide))
                show zG E gJ1 md268 w gm_268 48 [(0, .inr (.inl 12)), (1, .inl 1)] σ709 K
                exact ih σ709 u511 (by omega) h720 a710 (by omega) (by omega)
      · refine Exists.intro u (And.intro (And.intro hI (by omega)) (fun (u721 : Int) (σ722 : vS) (a723 : u721 ≤ u) (a724 : zIv σ722 u721) (a725 : zfd σ σ722) => ?_))
        have x726 : vX σ722 := vX_fr hX (a725.1 52 (by decide) (by decide)) (a725.1 74 (by decide) (by decide))
        have e727 : σ722 12 47 = σ 12 47 := a725.2 47 (by decide) (by decide) (by decide)
        have e728 : σ722 12 50 = σ 12 50 := a725.2 50 (by decide) (by decide) (by decide)
        have e733 : σ722 12 2 = σ 12 2 := a725.2 2 (by decide) (by decide) (by decide)
        have e731 : σ722 12 12 = σ 12 12 := a725.2 12 (by decide) (by decide) (by decide)
        have f732 : 0 ≤ σ 12 12 ∧ σ 12 12 ≤ 940 := zf B hb (t := 12) (f := 12) (by decide +kernel)
        refine Exists.intro u721 (And.intro (And.intro a724 (by omega)) (fun (σ734 : vS) (a735 : zIv σ734 u721) (a736 : zfd σ722 σ734) (a737 : 22 = 22 → σ734 12 48 ≤ 0 ∨ ¬ zj (σ734 72) (σ734 12 48 - 1)) => ?_))
        have x738 : vX σ734 := vX_fr x726 (a736.1 52 (by decide) (by decide)) (a736.1 74 (by decide) (by decide))
        have e739 : σ734 12 47 = σ722 12 47 := a736.2 47 (by decide) (by decide) (by decide)
        have e740 : σ734 12 50 = σ722 12 50 := a736.2 50 (by decide) (by decide) (by decide)
        have e743 : σ734 12 50 = 1 := by omega
        have h741 : zIw (σ734 54) (σ734 72) (σ734 12 46) (σ734 12 48) (σ734 12 47) 1 u721 := by
          rw [← e743]
          exact a735
        have h742 := zIw_b h741 (by omega)
        have e745 : σ734 12 2 = σ722 12 2 := a736.2 2 (by decide) (by decide) (by decide)
        have e744 : σ734 12 12 = σ722 12 12 := a736.2 12 (by decide) (by decide) (by decide)
        refine And.intro (fun (c746 : (σ734 12 48) ≤ 0) => ?_) (fun (c747 : 0 < (σ734 12 48)) => ?_)
        · show zG E gJ1 md268 w gm_268 48 [(0, .inr (.inl 12)), (1, .inl 0)] σ734 K
          exact z_sen2 B h271 h223 hK a735 (by omega) x738 (by omega)
        · refine And.intro (show Int.negSucc 2147483647 ≤ 1 ∧ 1 ≤ 2147483647 from rgm (by omega)) ?_
          refine And.intro (show Int.negSucc 2147483647 ≤ (σ734 12 12) ∧ (σ734 12 12) ≤ 2147483647 from rgm (by omega)) ?_
          refine And.intro (show 0 ≤ 0 ∧ 0 ≤ 1 from by omega) ?_
          refine fun (z748 : Int) (h749 : -2147483648 ≤ z748 ∧ z748 ≤ 2147483647) (e750 : z748 = vsub (-1) (σ734 12 12)) => ?_
          show K (some (.inl z748)) (vup (vup σ734 12 15 1) 12 16 (σ734 12 12))
          exact hK _ _ (by omega) (vX_fr x738 rfl rfl) (show σ734 12 2 = 0 from by omega)
theorem z_sen0 (B : zB E) (h271 : zH E gJ1 (gm_271, 4) gc_271_0) (h223 : zH E gJ1 (gm_223, 3) gc_223_0) (hK : ∀ (z : Int) (σ2 : vS), -2147483648 ≤ z ∧ z ≤ 2147483647 → vX σ2 → σ2 12 2 = 0 → K (some (.inl z)) σ2) (hX : vX σ) : zG E gJ1 md268 w gm_268 0 [(0, .inr (.inl 12))] σ K := by
  refine zbd (fun hb => zgo B (zS_cons (z_271s B h271) (zS_cons (z_conP B (m := 223) rfl h223 rfl rfl) (zS_cons (z_243 B) (zS_cons (z_231 B) (zS_cons (z_230 B) (zS_cons (z_228 B) (zS_cons (z_233 B) (zS_cons (z_207 B) zS_nil)))))))) [94, 130, 120, 136] [(48, [0, 1]), (146, [0, 2])] (fun m => Nat.beq m.2.2.2.2.1 167) (by decide +kernel) ?_)
  refine And.intro (show Int.negSucc 2147483647 ≤ 0 ∧ 0 ≤ 2147483647 from rgm (by omega)) ?_
  have f1 : 0 ≤ σ 12 2 ∧ σ 12 2 ≤ 940 := zf B hb (t := 12) (f := 2) (by decide +kernel)
  refine And.intro (show 0 ≤ (σ 12 2) ∧ (σ 12 2) ≤ 940 from by omega) ?_
  refine And.intro (show 0 ≤ 0 ∧ 0 ≤ 940 from by omega) ?_
  refine And.intro (show 0 ≤ 0 ∧ 0 ≤ 940 from by omega) ?_
  refine And.intro (show 0 ≤ 200 ∧ 200 ≤ 940 from by omega) ?_
  refine And.intro (show Int.negSucc 2147483647 ≤ 0 ∧ 0 ≤ 2147483647 from rgm (by omega)) ?_
  refine And.intro (show 0 ≤ 0 ∧ 0 ≤ 53 from by omega) ?_
  refine And.intro (show Int.negSucc 2147483647 ≤ 0 ∧ 0 ≤ 2147483647 from rgm (by omega)) ?_
  refine And.intro (show 0 ≤ 0 ∧ 0 ≤ 45 from by omega) ?_
  refine And.intro (show Int.negSucc 2147483647 ≤ 1 ∧ 1 ≤ 2147483647 from rgm (by omega)) ?_
  refine And.intro (show 0 ≤ 0 ∧ 0 ≤ 1 from by omega) ?_
  refine And.intro (show 0 ≤ 0 ∧ 0 ≤ 1 from by omega) ?_
  refine And.intro (show vX (vup (vup (vup (vup (vup (vup (vup (vup (vup (vup (vup σ 12 0 0) 12 3 (σ 12 2)) 12 2 0) 12 4 0) 12 5 200) 12 15 0) 12 46 0) 12 47 0) 12 48 0) 12 49 1) 12 50 0) from vX_fr hX rfl rfl) (And.intro (by decide +kernel) (fun (σ2 : vS) (a3 : vX σ2) (a4 : vBd (zso E) gST zuq σ2) (a5 : vFm zuq md271 (vup (vup (vup (vup (vup (vup (vup (vup (vup (vup (vup σ 12 0 0) 12 3 (σ 12 2)) 12 2 0) 12 4 0) 12 5 200) 12 15 0) 12 46 0) 12 47 0) 12 48 0) 12 49 1) 12 50 0) σ2) => ?_))
  have e6 : σ2 12 46 = 0 := vFm_fl a5 (t := 12) (f := 46) rfl (by decide +kernel)
  have e7 : σ2 12 48 = 0 := vFm_fl a5 (t := 12) (f := 48) rfl (by decide +kernel)
  have e8 : σ2 12 47 = 0 := vFm_fl a5 (t := 12) (f := 47) rfl (by decide +kernel)
  have e9 : σ2 12 50 = 0 := vFm_fl a5 (t := 12) (f := 50) rfl (by decide +kernel)
  have e10 : σ2 12 2 = 0 := vFm_fl a5 (t := 12) (f := 2) rfl (by decide +kernel)
  have e11 : σ2 72 = σ 72 := vFm_at a5 rfl (by decide +kernel)
  have e12 : σ2 54 = σ 54 := vFm_at a5 rfl (by decide +kernel)
  show zG E gJ1 md268 w gm_268 48 [(0, .inr (.inl 12)), (1, .inl 1)] σ2 K
  have hF : zIv σ2 0 := by
    show zIw (σ2 54) (σ2 72) (σ2 12 46) (σ2 12 48) (σ2 12 47) (σ2 12 50) 0
    rw [e6, e7, e8, e9]
    exact zIw_0
  exact z_sen1 B h271 h223 hK 200 σ2 0 (by omega) hF a3 (by omega) (by omega)
theorem zc_268 (B : zB E) (h271 : zH E gJ1 (gm_271, 4) gc_271_0) (h223 : zH E gJ1 (gm_223, 3) gc_223_0) : zH E gJ1 (gm_268, 3) gc_268_0 := by
  refine z_holds B (by decide) (fun w vs σ hv hX hb => ?_)
  have hv : vFits [.inr (.inl 12)] vs := hv
  rw [fits1 hv]
  exact z_sen0 B h271 h223 (fun z σ2 hz hX2 _ => ⟨hX2, _, List.mem_cons_self, ⟨hz.1, hz.2⟩⟩) hX
end Z10
