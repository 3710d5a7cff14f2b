/-! EXACT WALKS: walked, corridor, isSaid -/
section Z7
variable {E : zE} {J : List aJ} {md : aMd} {w : va_W} {σ : vS} {K : vK}
theorem vand_255 (x : Int) : 0 ≤ vand x 255 := by
  have h := vand_rg x 255
  apply Classical.byContradiction
  intro hc
  have h31 : tb (vand x 255) 31 = true := by
    unfold tb
    show (Int32.ofInt (vand x 255)).toBitVec.getLsbD 31 = true
    have hm : (Int32.ofInt (vand x 255)).toBitVec.msb = true := by
      rw [BitVec.msb_eq_toInt]
      apply decide_eq_true
      show (Int32.ofInt (vand x 255)).toInt < 0
      rw [Int32.toInt_ofInt_of_le (by omega) (by omega)]
      omega
    rw [BitVec.msb_eq_getLsbD_last] at hm
    exact hm
  rw [tb_and] at h31
  have e : tb 255 31 = false := by decide +kernel
  rw [e, Bool.and_false] at h31
  cases h31
theorem z_wal3 (B : zB E) (n1 : 0 ≤ σ 52 2 ∧ σ 52 2 ≤ 12) (hz : 1 ≤ σ 12 3 ∧ σ 12 3 ≤ 20) (hK : ∀ z : Int, -2147483648 ≤ z ∧ z ≤ 2147483647 → K (some (.inl z)) σ) (hO : (∀ j : Int, 0 ≤ j → j < σ 12 3 → vand (σ 51 j) 255 < σ 52 2)) {set q : Int} (hq : 0 ≤ q ∧ q ≤ 5) (hN : ∀ set : Int, (-2147483648 ≤ set ∧ set ≤ 2147483647) → zG E gJ1 md283 w gm_283 61 [(0, .inr (.inl 12)), (1, .inl set), (2, .inl (q + 1))] σ K) : ∀ (m : Nat) (y i : Int), 20 - i < (m : Int) → 0 ≤ i → i ≤ 20 → (0 ≤ y ∧ y ≤ 1) → zG E gJ1 md283 w gm_283 88 [(0, .inr (.inl 12)), (1, .inl set), (2, .inl q), (3, .inl y), (4, .inl i)] σ K := by
  intro m
  induction m with
  | zero => intro y i h; omega
  | succ m ih =>
    intro y i hm h0 h1 hy
    have o0 := vand_255 (σ 51 i)
    have o1 := vand_255 (σ 51 (i - 1))
    have o2 : i < σ 12 3 → vand (σ 51 i) 255 < σ 52 2 := fun h => hO i h0 h
    have o3 : i < σ 12 3 → ¬ i = 0 → vand (σ 51 (i - 1)) 255 < σ 52 2 := fun h g => hO (i - 1) (by omega) (by omega)
    refine zbd (fun hb => zgo B (zS_cons (z_181 B) (zS_cons (z_190 B) (zS_cons (z_182 B) zS_nil))) [] [(29, [0, 1]), (61, [0, 1, 2]), (88, [0, 1, 2, 3, 4])] (fun m => Nat.beq m.2.2.2.2.1 165) (by decide +kernel) ?_)
    have f1 : 0 ≤ σ 12 3 ∧ σ 12 3 ≤ 940 := zf B hb (t := 12) (f := 3) (by decide +kernel)
    refine And.intro (fun (c2 : (σ 12 3) ≤ i) => ?_) (fun (c3 : i < (σ 12 3)) => ?_)
    · refine And.intro (fun (c4 : y = 0) => ?_) (fun (c5 : ¬ y = 0) => ?_)
      · refine And.intro (show -2147483648 ≤ (q + 1) ∧ (q + 1) ≤ 2147483647 from by omega) ?_
        show zG E gJ1 md283 w gm_283 61 [(0, .inr (.inl 12)), (1, .inl (vor set 0)), (2, .inl (q + 1))] σ K
        exact hN _ (vor_rg _ _)
      · refine And.intro (show -2147483648 ≤ (q + 1) ∧ (q + 1) ≤ 2147483647 from by omega) ?_
        show zG E gJ1 md283 w gm_283 61 [(0, .inr (.inl 12)), (1, .inl (vor set (vshl 1 q))), (2, .inl (q + 1))] σ K
        exact hN _ (vor_rg _ _)
    · refine And.intro (fun (c6 : y = 0) => ?_) (fun (c7 : ¬ y = 0) => ?_)
      · refine And.intro (fun (c8 : y = 0) => ?_) (fun (c9 : ¬ y = 0) => ?_)
        · refine And.intro (show -2147483648 ≤ (q + 1) ∧ (q + 1) ≤ 2147483647 from by omega) ?_
          show zG E gJ1 md283 w gm_283 61 [(0, .inr (.inl 12)), (1, .inl (vor set 0)), (2, .inl (q + 1))] σ K
          exact hN _ (vor_rg _ _)
        · refine And.intro (show -2147483648 ≤ (q + 1) ∧ (q + 1) ≤ 2147483647 from by omega) ?_
          show zG E gJ1 md283 w gm_283 61 [(0, .inr (.inl 12)), (1, .inl (vor set (vshl 1 q))), (2, .inl (q + 1))] σ K
          exact hN _ (vor_rg _ _)
      · refine And.intro (show 0 ≤ i ∧ i < 940 from by omega) ?_
        refine And.intro (show (0 ≤ q ∧ q ≤ 5) ∧ (0 ≤ (vand (σ 51 i) 255) ∧ (vand (σ 51 i) 255) ≤ 11) from by omega) (fun (z10 : Int) (h11 : (z10 = 1 ∧ zen (σ 52) q (vand (σ 51 i) 255)) ∨ (z10 = 0 ∧ ¬ zen (σ 52) q (vand (σ 51 i) 255))) => ?_)
        rcases h11 with ⟨rfl, t12⟩ | ⟨rfl, t12⟩
        · refine And.intro (fun (q : 1 = 0) => absurd q (by decide)) (fun _ => ?_)
          refine And.intro (fun (c13 : i = 0) => ?_) (fun (c14 : ¬ i = 0) => ?_)
          · refine And.intro (show -2147483648 ≤ (i + 1) ∧ (i + 1) ≤ 2147483647 from by omega) ?_
            show zG E gJ1 md283 w gm_283 88 [(0, .inr (.inl 12)), (1, .inl set), (2, .inl q), (3, .inl 1), (4, .inl (i + 1))] σ K
            exact ih 1 (i + 1) (by omega) (by omega) (by omega) (by omega)
          · refine And.intro (show -2147483648 ≤ (i - 1) ∧ (i - 1) ≤ 2147483647 from by omega) ?_
            refine And.intro (show 0 ≤ (i - 1) ∧ (i - 1) < 940 from by omega) ?_
            refine And.intro (show 0 ≤ i ∧ i < 940 from by omega) ?_
            refine And.intro (show 0 ≤ (vand (σ 51 i) 255) ∧ (vand (σ 51 i) 255) ≤ 31 from by omega) (fun (z15 : Int) (h16 : (z15 = 1 ∧ tb (zbF (σ 52) (vand (σ 51 (i - 1)) 255)) (vand (σ 51 i) 255) = true) ∨ (z15 = 0 ∧ tb (zbF (σ 52) (vand (σ 51 (i - 1)) 255)) (vand (σ 51 i) 255) = false)) => ?_)
            rcases h16 with ⟨rfl, t17⟩ | ⟨rfl, t17⟩
            · refine And.intro (fun (q : 1 = 0) => absurd q (by decide)) (fun _ => ?_)
              refine And.intro (show -2147483648 ≤ (i + 1) ∧ (i + 1) ≤ 2147483647 from by omega) ?_
              show zG E gJ1 md283 w gm_283 88 [(0, .inr (.inl 12)), (1, .inl set), (2, .inl q), (3, .inl 1), (4, .inl (i + 1))] σ K
              exact ih 1 (i + 1) (by omega) (by omega) (by omega) (by omega)
            · refine And.intro (fun _ => ?_) (fun (q : ¬ 0 = 0) => absurd q (by decide))
              refine And.intro (show -2147483648 ≤ (i + 1) ∧ (i + 1) ≤ 2147483647 from by omega) ?_
              show zG E gJ1 md283 w gm_283 88 [(0, .inr (.inl 12)), (1, .inl set), (2, .inl q), (3, .inl 0), (4, .inl (i + 1))] σ K
              exact ih 0 (i + 1) (by omega) (by omega) (by omega) (by omega)
        · refine And.intro (fun _ => ?_) (fun (q : ¬ 0 = 0) => absurd q (by decide))
          refine And.intro (show -2147483648 ≤ (i + 1) ∧ (i + 1) ≤ 2147483647 from by omega) ?_
          show zG E gJ1 md283 w gm_283 88 [(0, .inr (.inl 12)), (1, .inl set), (2, .inl q), (3, .inl 0), (4, .inl (i + 1))] σ K
          exact ih 0 (i + 1) (by omega) (by omega) (by omega) (by omega)
theorem z_wal2 (B : zB E) (n1 : 0 ≤ σ 52 2 ∧ σ 52 2 ≤ 12) (hz : 1 ≤ σ 12 3 ∧ σ 12 3 ≤ 20) (hK : ∀ z : Int, -2147483648 ≤ z ∧ z ≤ 2147483647 → K (some (.inl z)) σ) (hO : (∀ j : Int, 0 ≤ j → j < σ 12 3 → vand (σ 51 j) 255 < σ 52 2)) : ∀ (m : Nat) (set q : Int), 6 - q < (m : Int) → 0 ≤ q → q ≤ 6 → (-2147483648 ≤ set ∧ set ≤ 2147483647) → zG E gJ1 md283 w gm_283 61 [(0, .inr (.inl 12)), (1, .inl set), (2, .inl q)] σ K := by
  intro m
  induction m with
  | zero => intro set q h; omega
  | succ m ih =>
    intro set q hm h0 h1 hs
    refine zbd (fun hb => zgo B (zS_cons (z_181 B) (zS_cons (z_190 B) (zS_cons (z_182 B) zS_nil))) [] [(29, [0, 1]), (61, [0, 1, 2]), (88, [0, 1, 2, 3, 4])] (fun m => Nat.beq m.2.2.2.2.1 165) (by decide +kernel) ?_)
    refine And.intro (show 0 ≤ 1 ∧ 1 < 402 from by omega) ?_
    have f1 : 0 ≤ σ 52 1 ∧ σ 52 1 ≤ 6 := zb B hb (t := 52) (a := 0) (n := 2) (i := 1) (by decide +kernel) (by omega) (by omega)
    refine And.intro (fun (c2 : (σ 52 1) ≤ q) => ?_) (fun (c3 : q < (σ 52 1)) => ?_)
    · show K (some (.inl set)) σ
      exact hK _ (by omega)
    · refine And.intro (show 0 ≤ 180 ∧ 180 < 402 from by omega) ?_
      have f4 : (-2147483648) ≤ σ 52 180 ∧ σ 52 180 ≤ 2147483647 := zb B hb (t := 52) (a := 179) (n := 185) (i := 180) (by decide +kernel) (by omega) (by omega)
      refine And.intro (show 0 ≤ q ∧ q ≤ 31 from by omega) (fun (z5 : Int) (h6 : (z5 = 1 ∧ tb (σ 52 180) q = true) ∨ (z5 = 0 ∧ tb (σ 52 180) q = false)) => ?_)
      rcases h6 with ⟨rfl, t7⟩ | ⟨rfl, t7⟩
      · refine And.intro (show 0 ≤ 1 ∧ 1 ≤ 1 from by omega) ?_
        refine And.intro (fun _ => ?_) (fun (q : 1 = 0) => absurd q (by decide))
        show zG E gJ1 md283 w gm_283 88 [(0, .inr (.inl 12)), (1, .inl set), (2, .inl q), (3, .inl 0), (4, .inl 0)] σ K
        exact z_wal3 B n1 hz hK hO (by omega) (fun s2 a => ih s2 (q + 1) (by omega) (by omega) (by omega) a) 21 _ 0 (by omega) (by omega) (by omega) (by omega)
      · refine And.intro (show 0 ≤ 0 ∧ 0 ≤ 1 from by omega) ?_
        refine And.intro (fun (q : ¬ 0 = 0) => absurd q (by decide)) (fun _ => ?_)
        show zG E gJ1 md283 w gm_283 88 [(0, .inr (.inl 12)), (1, .inl set), (2, .inl q), (3, .inl 1), (4, .inl 0)] σ K
        exact z_wal3 B n1 hz hK hO (by omega) (fun s2 a => ih s2 (q + 1) (by omega) (by omega) (by omega) a) 21 _ 0 (by omega) (by omega) (by omega) (by omega)
theorem z_wal1 (B : zB E) (n1 : 0 ≤ σ 52 2 ∧ σ 52 2 ≤ 12) (hz : 1 ≤ σ 12 3 ∧ σ 12 3 ≤ 20) (hK : ∀ z : Int, -2147483648 ≤ z ∧ z ≤ 2147483647 → K (some (.inl z)) σ) : ∀ (m : Nat) (i : Int), 20 - i < (m : Int) → 0 ≤ i → i ≤ 20 → (∀ j : Int, 0 ≤ j → j < i → vand (σ 51 j) 255 < σ 52 2) → zG E gJ1 md283 w gm_283 29 [(0, .inr (.inl 12)), (1, .inl i)] σ K := by
  intro m
  induction m with
  | zero => intro i h; omega
  | succ m ih =>
    intro i hm h0 h1 hO
    refine zbd (fun hb => zgo B (zS_cons (z_181 B) (zS_cons (z_190 B) (zS_cons (z_182 B) zS_nil))) [] [(29, [0, 1]), (61, [0, 1, 2]), (88, [0, 1, 2, 3, 4])] (fun m => Nat.beq m.2.2.2.2.1 165) (by decide +kernel) ?_)
    have f1 : 0 ≤ σ 12 3 ∧ σ 12 3 ≤ 940 := zf B hb (t := 12) (f := 3) (by decide +kernel)
    refine And.intro (fun (c2 : (σ 12 3) ≤ i) => ?_) (fun (c3 : i < (σ 12 3)) => ?_)
    · show zG E gJ1 md283 w gm_283 61 [(0, .inr (.inl 12)), (1, .inl 0), (2, .inl 0)] σ K
      exact z_wal2 B n1 hz hK (fun j j0 j1 => hO j j0 (by omega)) 7 0 0 (by omega) (by omega) (by omega) (by omega)
    · refine And.intro (show 0 ≤ i ∧ i < 940 from by omega) ?_
      refine And.intro (show 0 ≤ 2 ∧ 2 < 402 from by omega) ?_
      have f4 : 0 ≤ σ 52 2 ∧ σ 52 2 ≤ 12 := zb B hb (t := 52) (a := 2) (n := 3) (i := 2) (by decide +kernel) (by omega) (by omega)
      refine And.intro (show -2147483648 ≤ ((σ 52 2) - 1) ∧ ((σ 52 2) - 1) ≤ 2147483647 from by omega) ?_
      refine And.intro (fun (c5 : (vand (σ 51 i) 255) < 0) => ?_) (fun (c6 : 0 ≤ (vand (σ 51 i) 255)) => ?_)
      · refine And.intro (show 0 ≤ 0 ∧ 0 ≤ 1 from by omega) ?_
        refine And.intro (show 0 ≤ 0 ∧ 0 ≤ 1 from by omega) ?_
        refine And.intro (fun (q : ¬ 0 = 0) => absurd q (by decide)) (fun _ => ?_)
        show K (some (.inl (-1))) σ
        exact hK _ (by omega)
      · refine And.intro (fun (c7 : ((σ 52 2) - 1) < (vand (σ 51 i) 255)) => ?_) (fun (c8 : (vand (σ 51 i) 255) ≤ ((σ 52 2) - 1)) => ?_)
        · refine And.intro (show 0 ≤ 0 ∧ 0 ≤ 1 from by omega) ?_
          refine And.intro (show 0 ≤ 0 ∧ 0 ≤ 1 from by omega) ?_
          refine And.intro (fun (q : ¬ 0 = 0) => absurd q (by decide)) (fun _ => ?_)
          show K (some (.inl (-1))) σ
          exact hK _ (by omega)
        · refine And.intro (show 0 ≤ 1 ∧ 1 ≤ 1 from by omega) ?_
          refine And.intro (show 0 ≤ 1 ∧ 1 ≤ 1 from by omega) ?_
          refine And.intro (fun _ => ?_) (fun (q : 1 = 0) => absurd q (by decide))
          refine And.intro (show -2147483648 ≤ (i + 1) ∧ (i + 1) ≤ 2147483647 from by omega) ?_
          show zG E gJ1 md283 w gm_283 29 [(0, .inr (.inl 12)), (1, .inl (i + 1))] σ K
          exact ih (i + 1) (by omega) (by omega) (by omega) (fun j j0 j1 => by
            by_cases hj : j = i
            · subst hj; omega
            · exact hO j j0 (by omega))
theorem z_wal0 (B : zB E) (hK : ∀ (z : Int) (σ2 : vS), -2147483648 ≤ z ∧ z ≤ 2147483647 → zfr [12] σ σ2 → σ2 12 2 = 0 → K (some (.inl z)) σ2) : zG E gJ1 md283 w gm_283 0 [(0, .inr (.inl 12))] σ K := by
  refine zbd (fun hb => zgo B (zS_cons (z_181 B) (zS_cons (z_190 B) (zS_cons (z_182 B) zS_nil))) [] [(29, [0, 1]), (61, [0, 1, 2]), (88, [0, 1, 2, 3, 4])] (fun m => Nat.beq m.2.2.2.2.1 165) (by decide +kernel) ?_)
  have fr := zb B hb (t := 52) (a := 2) (n := 3) (i := 2) (lo := 0) (hi := 12) (by decide +kernel) (by omega) (by omega)
  refine And.intro (show Int.negSucc 2147483647 ≤ 0 ∧ 0 ≤ 2147483647 from rgm (by omega)) ?_
  have f1 : 0 ≤ σ 12 2 ∧ σ 12 2 ≤ 940 := zf B hb (t := 12) (f := 2) (by decide +kernel)
  refine And.intro (show 0 ≤ (σ 12 2) ∧ (σ 12 2) ≤ 940 from by omega) ?_
  refine And.intro (show 0 ≤ 0 ∧ 0 ≤ 940 from by omega) ?_
  refine And.intro (show 0 ≤ 0 ∧ 0 ≤ 940 from by omega) ?_
  refine And.intro (show 0 ≤ 940 ∧ 940 ≤ 940 from by omega) ?_
  refine And.intro (fun (c2 : (σ 12 2) < 1) => ?_) (fun (c3 : 1 ≤ (σ 12 2)) => ?_)
  · refine And.intro (show 0 ≤ 0 ∧ 0 ≤ 1 from by omega) ?_
    refine And.intro (fun (q : ¬ 0 = 0) => absurd q (by decide)) (fun _ => ?_)
    show K (some (.inl (-1))) (vup (vup (vup (vup (vup σ 12 0 0) 12 3 (σ 12 2)) 12 2 0) 12 4 0) 12 5 940)
    exact hK _ _ (by omega) (zfr_up (zfr_up (zfr_up (zfr_up (zfr_up zfr_refl (by decide)) (by decide)) (by decide)) (by decide)) (by decide)) rfl
  · refine And.intro (fun (c4 : 20 < (σ 12 2)) => ?_) (fun (c5 : (σ 12 2) ≤ 20) => ?_)
    · refine And.intro (show 0 ≤ 0 ∧ 0 ≤ 1 from by omega) ?_
      refine And.intro (fun (q : ¬ 0 = 0) => absurd q (by decide)) (fun _ => ?_)
      show K (some (.inl (-1))) (vup (vup (vup (vup (vup σ 12 0 0) 12 3 (σ 12 2)) 12 2 0) 12 4 0) 12 5 940)
      exact hK _ _ (by omega) (zfr_up (zfr_up (zfr_up (zfr_up (zfr_up zfr_refl (by decide)) (by decide)) (by decide)) (by decide)) (by decide)) rfl
    · refine And.intro (show 0 ≤ 1 ∧ 1 ≤ 1 from by omega) ?_
      refine And.intro (fun _ => ?_) (fun (q : 1 = 0) => absurd q (by decide))
      show zG E gJ1 md283 w gm_283 29 [(0, .inr (.inl 12)), (1, .inl 0)] (vup (vup (vup (vup (vup σ 12 0 0) 12 3 (σ 12 2)) 12 2 0) 12 4 0) 12 5 940) K
      exact z_wal1 (σ := (vup (vup (vup (vup (vup σ 12 0 0) 12 3 (σ 12 2)) 12 2 0) 12 4 0) 12 5 940)) B (show 0 ≤ σ 52 2 ∧ σ 52 2 ≤ 12 from fr) (show 1 ≤ σ 12 2 ∧ σ 12 2 ≤ 20 from by omega) (fun z hz => hK z _ hz (zfr_up (zfr_up (zfr_up (zfr_up (zfr_up zfr_refl (by decide)) (by decide)) (by decide)) (by decide)) (by decide)) rfl) 21 0 (by omega) (by omega) (by omega) (fun j j0 j1 => by omega)
theorem zc_283 (B : zB E) : zH E gJ1 (gm_283, 5) gc_283_0 := by
  refine z_holds B (by decide) (fun w vs σ hv hX hb => ?_)
  have hv : vFits [.inr (.inl 12)] vs := hv
  rw [fits1 hv]
  exact z_wal0 B (fun z σ2 hz hf _ => ⟨vX_fr hX (hf 52 (by decide)) (hf 74 (by decide)), _, List.mem_cons_self, ⟨hz.1, hz.2⟩⟩)
theorem z_cor2 (B : zB E) (h281 : zH E gJ1 (gm_281, 2) gc_281_0) (h177 : zH E gJ1 (gm_177, 2) gc_177_0) (h198 : zH E gJ1 (gm_198, 4) gc_198_0) (h264 : zH E gJ1 (gm_264, 4) gc_264_0) {q n : Int} (n0 : 1 ≤ n ∧ n ≤ 6) (hq : 0 ≤ q ∧ q ≤ 5) (hK : ∀ (z : Int) (σ2 : vS), -2147483648 ≤ z ∧ z ≤ 2147483647 → vX σ2 → σ2 12 2 = 0 → K (some (.inl z)) σ2) : ∀ (m : Nat) (i : Int) (σ : vS), 6 - i < (m : Int) → 0 ≤ i → vX σ → σ 12 3 = n → (∀ j : Int, 0 ≤ j → j < n → vand (σ 51 j) 255 ≤ 5) → σ 12 2 = 0 → i ≤ n → zG E gJ1 md194 w gm_194 97 [(0, .inr (.inl 12)), (1, .inl q), (3, .inl i)] σ K := by
  intro m
  induction m with
  | zero => intro i σ h; omega
  | succ m ih =>
    intro i σ hm h0 hX hn hO hl h1
    have o0 := vand_255 (σ 51 i)
    have o2 : i < n → vand (σ 51 i) 255 ≤ 5 := fun h => hO i h0 h
    refine zbd (fun hb => zgo B (zS_cons (z_conN B (m := 281) rfl h281 rfl) (zS_cons (z_conN B (m := 177) rfl h177 rfl) (zS_cons (z_conN B (m := 198) rfl h198 rfl) (zS_cons (z_conP B (m := 264) rfl h264 rfl rfl) (zS_cons (z_182 B) zS_nil))))) [] [(41, [0, 1, 2, 3]), (97, [0, 1, 3])] (fun m => Nat.beq m.2.2.2.2.1 187) (by decide +kernel) ?_)
    have f1 : 0 ≤ σ 12 3 ∧ σ 12 3 ≤ 940 := zf B hb (t := 12) (f := 3) (by decide +kernel)
    refine And.intro (fun (c2 : (σ 12 3) ≤ i) => ?_) (fun (c3 : i < (σ 12 3)) => ?_)
    · refine And.intro ⟨rfl, (show Int.negSucc 0 ≤ q ∧ q ≤ 5 from rgm (by omega)), trivial⟩ (And.intro hX (fun (z4 : Int) (a5 : Int.negSucc 2147483647 ≤ z4 ∧ z4 ≤ 2147483647) => ?_))
      refine And.intro ⟨rfl, trivial⟩ (And.intro hX (And.intro (by decide +kernel) (fun (σ6 : vS) (a7 : vX σ6) (a8 : vBd (zso E) gST zuq σ6) (a9 : vFm zuq gc_177_0.2.2.2 σ σ6) => ?_)))
      show K (some (.inl z4)) σ6
      exact hK _ _ (show -2147483648 ≤ z4 ∧ z4 ≤ 2147483647 from by omega) a7 (by rw [vFm_at a9 (t := 12) rfl (by decide +kernel)]; exact hl)
    · refine And.intro (show 0 ≤ i ∧ i < 940 from by omega) ?_
      refine And.intro (show 0 ≤ 180 ∧ 180 < 402 from by omega) ?_
      have f10 : (-2147483648) ≤ σ 52 180 ∧ σ 52 180 ≤ 2147483647 := zb B hb (t := 52) (a := 179) (n := 185) (i := 180) (by decide +kernel) (by omega) (by omega)
      refine And.intro (show 0 ≤ (vand (σ 51 i) 255) ∧ (vand (σ 51 i) 255) ≤ 31 from by omega) (fun (z11 : Int) (h12 : (z11 = 1 ∧ tb (σ 52 180) (vand (σ 51 i) 255) = true) ∨ (z11 = 0 ∧ tb (σ 52 180) (vand (σ 51 i) 255) = false)) => ?_)
      rcases h12 with ⟨rfl, t13⟩ | ⟨rfl, t13⟩
      · refine And.intro (show 0 ≤ 1 ∧ 1 ≤ 1 from by omega) ?_
        refine And.intro (fun _ => ?_) (fun (q : 1 = 0) => absurd q (by decide))
        refine And.intro (show -2147483648 ≤ (i + 1) ∧ (i + 1) ≤ 2147483647 from by omega) ?_
        show zG E gJ1 md194 w gm_194 97 [(0, .inr (.inl 12)), (1, .inl q), (3, .inl (i + 1))] σ K
        exact ih (i + 1) σ (by omega) (by omega) hX hn hO hl (by omega)
      · refine And.intro (show 0 ≤ 0 ∧ 0 ≤ 1 from by omega) ?_
        refine And.intro (fun (q : ¬ 0 = 0) => absurd q (by decide)) (fun _ => ?_)
        refine And.intro (show 0 ≤ i ∧ i < 940 from by omega) ?_
        refine And.intro ⟨rfl, (show 0 ≤ (vand (σ 51 i) 255) ∧ (vand (σ 51 i) 255) ≤ 5 from by omega), trivial⟩ (And.intro hX (And.intro (by decide +kernel) (fun (σ14 : vS) (a15 : vX σ14) (a16 : vBd (zso E) gST zuq σ14) (a17 : vFm zuq gc_198_0.2.2.2 σ σ14) => ?_)))
        refine And.intro (show -2147483648 ≤ (i + 1) ∧ (i + 1) ≤ 2147483647 from by omega) ?_
        show zG E gJ1 md194 w gm_194 97 [(0, .inr (.inl 12)), (1, .inl q), (3, .inl (i + 1))] σ14 K
        have e1 : σ14 51 = σ 51 := vFm_at a17 rfl (by decide +kernel)
        have e2 : σ14 12 = σ 12 := vFm_at a17 rfl (by decide +kernel)
        exact ih (i + 1) σ14 (by omega) (by omega) a15 (by rw [e2]; exact hn) (by rw [e1]; exact hO) (by rw [e2]; exact hl) (by omega)
theorem z_cor1 (B : zB E) (h281 : zH E gJ1 (gm_281, 2) gc_281_0) (h177 : zH E gJ1 (gm_177, 2) gc_177_0) (h198 : zH E gJ1 (gm_198, 4) gc_198_0) (h264 : zH E gJ1 (gm_264, 4) gc_264_0) {q n : Int} (n0 : 1 ≤ n ∧ n ≤ 6) (hq : 0 ≤ q ∧ q ≤ 5) (hK : ∀ (z : Int) (σ2 : vS), -2147483648 ≤ z ∧ z ≤ 2147483647 → vX σ2 → σ2 12 2 = 0 → K (some (.inl z)) σ2) (hX : vX σ) (hn : σ 12 3 = n) (hl : σ 12 2 = 0) : ∀ (m : Nat) (seen i : Int), 6 - i < (m : Int) → 0 ≤ i → i ≤ n → (∀ j : Int, 0 ≤ j → j < i → vand (σ 51 j) 255 ≤ 5) → zG E gJ1 md194 w gm_194 41 [(0, .inr (.inl 12)), (1, .inl q), (2, .inl seen), (3, .inl i)] σ K := by
  intro m
  induction m with
  | zero => intro seen i h; omega
  | succ m ih =>
    intro seen i hm h0 h1 hO
    have o0 := vand_255 (σ 51 i)
    refine zbd (fun hb => zgo B (zS_cons (z_conN B (m := 281) rfl h281 rfl) (zS_cons (z_conN B (m := 177) rfl h177 rfl) (zS_cons (z_conN B (m := 198) rfl h198 rfl) (zS_cons (z_conP B (m := 264) rfl h264 rfl rfl) (zS_cons (z_182 B) zS_nil))))) [] [(41, [0, 1, 2, 3]), (97, [0, 1, 3])] (fun m => Nat.beq m.2.2.2.2.1 187) (by decide +kernel) ?_)
    have f1 : 0 ≤ σ 12 3 ∧ σ 12 3 ≤ 940 := zf B hb (t := 12) (f := 3) (by decide +kernel)
    refine And.intro (fun (c2 : (σ 12 3) ≤ i) => ?_) (fun (c3 : i < (σ 12 3)) => ?_)
    · refine And.intro ⟨rfl, trivial⟩ (And.intro hX (And.intro (by decide +kernel) (fun (σ4 : vS) (a5 : vX σ4) (a6 : vBd (zso E) gST zuq σ4) (a7 : vFm zuq gc_281_0.2.2.2 σ σ4) => ?_)))
      show zG E gJ1 md194 w gm_194 97 [(0, .inr (.inl 12)), (1, .inl q), (3, .inl 0)] σ4 K
      have e1 : σ4 51 = σ 51 := vFm_at a7 rfl (by decide +kernel)
      have e2 : σ4 12 = σ 12 := vFm_at a7 rfl (by decide +kernel)
      exact z_cor2 B h281 h177 h198 h264 n0 hq hK 7 0 σ4 (by omega) (by omega) a5 (by rw [e2]; exact hn) (by rw [e1]; exact fun j j0 j1 => hO j j0 (by omega)) (by rw [e2]; exact hl) (by omega)
    · refine And.intro (show 0 ≤ i ∧ i < 940 from by omega) ?_
      refine And.intro (show 0 ≤ 1 ∧ 1 < 402 from by omega) ?_
      have f8 : 0 ≤ σ 52 1 ∧ σ 52 1 ≤ 6 := zb B hb (t := 52) (a := 0) (n := 2) (i := 1) (by decide +kernel) (by omega) (by omega)
      refine And.intro (show -2147483648 ≤ ((σ 52 1) - 1) ∧ ((σ 52 1) - 1) ≤ 2147483647 from by omega) ?_
      refine And.intro (fun (c9 : (vand (σ 51 i) 255) < 0) => ?_) (fun (c10 : 0 ≤ (vand (σ 51 i) 255)) => ?_)
      · refine And.intro (show 0 ≤ 0 ∧ 0 ≤ 1 from by omega) ?_
        refine And.intro (show 0 ≤ 0 ∧ 0 ≤ 1 from by omega) ?_
        refine And.intro (fun _ => ?_) (fun (q : ¬ 0 = 0) => absurd q (by decide))
        show K (some (.inl (-1))) σ
        exact hK _ _ (by omega) hX hl
      · refine And.intro (fun (c11 : ((σ 52 1) - 1) < (vand (σ 51 i) 255)) => ?_) (fun (c12 : (vand (σ 51 i) 255) ≤ ((σ 52 1) - 1)) => ?_)
        · refine And.intro (show 0 ≤ 0 ∧ 0 ≤ 1 from by omega) ?_
          refine And.intro (show 0 ≤ 0 ∧ 0 ≤ 1 from by omega) ?_
          refine And.intro (fun _ => ?_) (fun (q : ¬ 0 = 0) => absurd q (by decide))
          show K (some (.inl (-1))) σ
          exact hK _ _ (by omega) hX hl
        · refine And.intro (show 0 ≤ 1 ∧ 1 ≤ 1 from by omega) ?_
          refine And.intro (show 0 ≤ 1 ∧ 1 ≤ 1 from by omega) ?_
          refine And.intro (fun (q : 1 = 0) => absurd q (by decide)) (fun _ => ?_)
          refine And.intro (show 0 ≤ i ∧ i < 940 from by omega) ?_
          refine And.intro (show 0 ≤ (vand (σ 51 i) 255) ∧ (vand (σ 51 i) 255) ≤ 31 from by omega) (fun (z13 : Int) (h14 : (z13 = 1 ∧ tb seen (vand (σ 51 i) 255) = true) ∨ (z13 = 0 ∧ tb seen (vand (σ 51 i) 255) = false)) => ?_)
          rcases h14 with ⟨rfl, t15⟩ | ⟨rfl, t15⟩
          · refine And.intro (fun (q : 1 = 0) => absurd q (by decide)) (fun _ => ?_)
            show K (some (.inl (-1))) σ
            exact hK _ _ (by omega) hX hl
          · refine And.intro (fun _ => ?_) (fun (q : ¬ 0 = 0) => absurd q (by decide))
            refine And.intro (show 0 ≤ i ∧ i < 940 from by omega) ?_
            refine And.intro (show -2147483648 ≤ (i + 1) ∧ (i + 1) ≤ 2147483647 from by omega) ?_
            show zG E gJ1 md194 w gm_194 41 [(0, .inr (.inl 12)), (1, .inl q), (2, .inl (vor seen (vshl 1 (vand (σ 51 i) 255)))), (3, .inl (i + 1))] σ K
            exact ih _ (i + 1) (by omega) (by omega) (by omega) (fun j j0 j1 => by
              by_cases hj : j = i
              · subst hj; omega
              · exact hO j j0 (by omega))
theorem z_cor0 (B : zB E) (h281 : zH E gJ1 (gm_281, 2) gc_281_0) (h177 : zH E gJ1 (gm_177, 2) gc_177_0) (h198 : zH E gJ1 (gm_198, 4) gc_198_0) (h264 : zH E gJ1 (gm_264, 4) gc_264_0) {q : Int} (hr : -2147483648 ≤ q ∧ q ≤ 2147483647) (hK : ∀ (z : Int) (σ2 : vS), -2147483648 ≤ z ∧ z ≤ 2147483647 → vX σ2 → σ2 12 2 = 0 → K (some (.inl z)) σ2) (hX : vX σ) : zG E gJ1 md194 w gm_194 0 [(0, .inr (.inl 12)), (1, .inl q)] σ K := by
  refine zbd (fun hb => zgo B (zS_cons (z_conN B (m := 281) rfl h281 rfl) (zS_cons (z_conN B (m := 177) rfl h177 rfl) (zS_cons (z_conN B (m := 198) rfl h198 rfl) (zS_cons (z_conP B (m := 264) rfl h264 rfl rfl) (zS_cons (z_182 B) zS_nil))))) [] [(41, [0, 1, 2, 3]), (97, [0, 1, 3])] (fun m => Nat.beq m.2.2.2.2.1 187) (by decide +kernel) ?_)
  refine And.intro (show Int.negSucc 2147483647 ≤ 0 ∧ 0 ≤ 2147483647 from rgm (by omega)) ?_
  have f1 : 0 ≤ σ 12 2 ∧ σ 12 2 ≤ 940 := zf B hb (t := 12) (f := 2) (by decide +kernel)
  refine And.intro (show 0 ≤ (σ 12 2) ∧ (σ 12 2) ≤ 940 from by omega) ?_
  refine And.intro (show 0 ≤ 0 ∧ 0 ≤ 940 from by omega) ?_
  refine And.intro (show 0 ≤ 0 ∧ 0 ≤ 940 from by omega) ?_
  refine And.intro (show 0 ≤ 940 ∧ 940 ≤ 940 from by omega) ?_
  refine And.intro (show 0 ≤ 1 ∧ 1 < 402 from by omega) ?_
  have f2 : 0 ≤ σ 52 1 ∧ σ 52 1 ≤ 6 := zb B hb (t := 52) (a := 0) (n := 2) (i := 1) (by decide +kernel) (by omega) (by omega)
  refine And.intro (show -2147483648 ≤ ((σ 52 1) - 1) ∧ ((σ 52 1) - 1) ≤ 2147483647 from by omega) ?_
  refine And.intro (fun (c3 : q < 0) => ?_) (fun (c4 : 0 ≤ q) => ?_)
  · refine And.intro (show 0 ≤ 0 ∧ 0 ≤ 1 from by omega) ?_
    refine And.intro (show 0 ≤ 0 ∧ 0 ≤ 1 from by omega) ?_
    refine And.intro (fun _ => ?_) (fun (q : ¬ 0 = 0) => absurd q (by decide))
    show K (some (.inl (-1))) (vup (vup (vup (vup (vup σ 12 0 0) 12 3 (σ 12 2)) 12 2 0) 12 4 0) 12 5 940)
    exact hK _ _ (by omega) (vX_fr hX rfl rfl) rfl
  · refine And.intro (fun (c5 : ((σ 52 1) - 1) < q) => ?_) (fun (c6 : q ≤ ((σ 52 1) - 1)) => ?_)
    · refine And.intro (show 0 ≤ 0 ∧ 0 ≤ 1 from by omega) ?_
      refine And.intro (show 0 ≤ 0 ∧ 0 ≤ 1 from by omega) ?_
      refine And.intro (fun _ => ?_) (fun (q : ¬ 0 = 0) => absurd q (by decide))
      show K (some (.inl (-1))) (vup (vup (vup (vup (vup σ 12 0 0) 12 3 (σ 12 2)) 12 2 0) 12 4 0) 12 5 940)
      exact hK _ _ (by omega) (vX_fr hX rfl rfl) rfl
    · refine And.intro (show 0 ≤ 1 ∧ 1 ≤ 1 from by omega) ?_
      refine And.intro (show 0 ≤ 1 ∧ 1 ≤ 1 from by omega) ?_
      refine And.intro (fun (q : 1 = 0) => absurd q (by decide)) (fun _ => ?_)
      refine And.intro (fun (c7 : (σ 12 2) < 1) => ?_) (fun (c8 : 1 ≤ (σ 12 2)) => ?_)
      · refine And.intro (show 0 ≤ 0 ∧ 0 ≤ 1 from by omega) ?_
        refine And.intro (fun (q : ¬ 0 = 0) => absurd q (by decide)) (fun _ => ?_)
        show K (some (.inl (-1))) (vup (vup (vup (vup (vup σ 12 0 0) 12 3 (σ 12 2)) 12 2 0) 12 4 0) 12 5 940)
        exact hK _ _ (by omega) (vX_fr hX rfl rfl) rfl
      · refine And.intro (fun (c9 : 6 < (σ 12 2)) => ?_) (fun (c10 : (σ 12 2) ≤ 6) => ?_)
        · refine And.intro (show 0 ≤ 0 ∧ 0 ≤ 1 from by omega) ?_
          refine And.intro (fun (q : ¬ 0 = 0) => absurd q (by decide)) (fun _ => ?_)
          show K (some (.inl (-1))) (vup (vup (vup (vup (vup σ 12 0 0) 12 3 (σ 12 2)) 12 2 0) 12 4 0) 12 5 940)
          exact hK _ _ (by omega) (vX_fr hX rfl rfl) rfl
        · refine And.intro (show 0 ≤ 1 ∧ 1 ≤ 1 from by omega) ?_
          refine And.intro (fun _ => ?_) (fun (q : 1 = 0) => absurd q (by decide))
          show zG E gJ1 md194 w gm_194 41 [(0, .inr (.inl 12)), (1, .inl q), (2, .inl (vshl 1 q)), (3, .inl 0)] (vup (vup (vup (vup (vup σ 12 0 0) 12 3 (σ 12 2)) 12 2 0) 12 4 0) 12 5 940) K
          exact z_cor1 (σ := (vup (vup (vup (vup (vup σ 12 0 0) 12 3 (σ 12 2)) 12 2 0) 12 4 0) 12 5 940)) (q := q) (n := σ 12 2) B h281 h177 h198 h264 (by omega) (by omega) hK (vX_fr hX rfl rfl) rfl rfl 7 _ 0 (by omega) (by omega) (by omega) (fun j j0 j1 => by omega)
theorem zc_194 (B : zB E) (h281 : zH E gJ1 (gm_281, 2) gc_281_0) (h177 : zH E gJ1 (gm_177, 2) gc_177_0) (h198 : zH E gJ1 (gm_198, 4) gc_198_0) (h264 : zH E gJ1 (gm_264, 4) gc_264_0) : zH E gJ1 (gm_194, 4) gc_194_0 := by
  refine z_holds B (by decide) (fun w vs σ hv hX hb => ?_)
  have hv : vFits [.inr (.inl 12), .inl (.negSucc 2147483647, .ofNat 2147483647)] vs := hv
  obtain ⟨q, rfl, h1⟩ := fits2 hv
  exact z_cor0 B h281 h177 h198 h264 h1 (fun z σ2 hz hX2 _ => ⟨hX2, _, List.mem_cons_self, ⟨hz.1, hz.2⟩⟩) hX
theorem xdz_st {g : Int → Int} {i : Int} (h : 0 ≤ i) : xdz g 221 (i + 1).toNat = xdz g 221 i.toNat + (if g (222 + (3 * i)) = 20 then 0 else if g (222 + (3 * i)) = 21 ∨ g (222 + (3 * i)) = 22 then -1 else 1) := by
  obtain ⟨n, rfl⟩ := Int.eq_ofNat_of_zero_le h
  have e : (221 : Int) + 1 + 3 * (n : Int) = 222 + (3 * (n : Int)) := by omega
  show xdz g 221 n + _ = _
  rw [e]
  rfl
theorem xVPz_st {g : Int → Int} {i : Int} (hx : xVPz g 221) (h : 0 ≤ i) (h1 : i < g 221) : (g (222 + (3 * i)) = 20 → 1 ≤ xdz g 221 i.toNat) ∧ (g (222 + (3 * i)) = 21 ∨ g (222 + (3 * i)) = 22 → 2 ≤ xdz g 221 i.toNat) ∧ 0 ≤ xdz g 221 i.toNat ∧ xdz g 221 i.toNat ≤ 44 := by
  obtain ⟨n, rfl⟩ := Int.eq_ofNat_of_zero_le h
  have e : (221 : Int) + 1 + 3 * (n : Int) = 222 + (3 * (n : Int)) := by omega
  have := hx n h1
  rw [e] at this
  exact this
theorem i32b (B : zB E) (hb : vBd (zso E) gST zuq σ) {i : Int} (h : 222 ≤ i ∧ i < 402) : Int.negSucc 2147483647 ≤ σ 52 i ∧ σ 52 i ≤ 2147483647 := zb B hb (t := 52) (a := 222) (n := 402) (by decide +kernel) h.1 h.2
theorem z_sai1 (B : zB E) (h222 : zH E gJ1 (gm_222, 6) gc_222_0) {k c : Int} (hk : 0 ≤ k ∧ k ≤ 11) (hK : ∀ (z : Int) (σ2 : vS), 0 ≤ z ∧ z ≤ 1 → vX σ2 → K (some (.inl z)) σ2) : ∀ (m : Nat) (i : Int) (σ : vS), 53 - i < (m : Int) → 0 ≤ i → i ≤ 53 → vX σ → σ 52 221 = c → zG E gJ1 md227 w gm_227 4 [(0, .inr (.inl 12)), (1, .inl k), (2, .inl (xdz (σ 52) 221 i.toNat)), (3, .inl i)] σ K := by
  intro m
  induction m with
  | zero => intro i σ h; omega
  | succ m ih =>
    intro i σ hm h0 h1 hX hc
    have hw : i < σ 52 221 → _ := fun h => xVPz_st hX.1 h0 h
    refine zbd (fun hb => zgo B (zS_cons (z_conP B (m := 222) rfl h222 rfl rfl) zS_nil) [] [(4, [0, 1, 2, 3])] (fun m => Nat.beq m.2.2.2.2.1 168) (by decide +kernel) ?_)
    refine And.intro (show 0 ≤ 221 ∧ 221 < 402 from by omega) ?_
    have f1 : 0 ≤ σ 52 221 ∧ σ 52 221 ≤ 53 := zb B hb (t := 52) (a := 221) (n := 222) (i := 221) (by decide +kernel) (by omega) (by omega)
    refine And.intro (fun (c2 : (σ 52 221) ≤ i) => ?_) (fun (c3 : i < (σ 52 221)) => ?_)
    · refine And.intro (show 0 ≤ 0 ∧ 0 < 45 from by omega) ?_
      have f4 : 0 ≤ σ 73 0 ∧ σ 73 0 ≤ 1 := zb B hb (t := 73) (a := 0) (n := 45) (i := 0) (by decide +kernel) (by omega) (by omega)
      refine And.intro (show 0 ≤ (σ 73 0) ∧ (σ 73 0) ≤ 1 from by omega) ?_
      show K (some (.inl (σ 73 0))) σ
      exact hK _ _ (by omega) hX
    · refine And.intro (show -2147483648 ≤ (3 * i) ∧ (3 * i) ≤ 2147483647 from by omega) ?_
      refine And.intro (show -2147483648 ≤ (222 + (3 * i)) ∧ (222 + (3 * i)) ≤ 2147483647 from by omega) ?_
      refine And.intro (show 0 ≤ (222 + (3 * i)) ∧ (222 + (3 * i)) < 402 from by omega) ?_
      refine And.intro (fun (c5 : ¬ (σ 52 (222 + (3 * i))) = 20) => ?_) (fun (c6 : (σ 52 (222 + (3 * i))) = 20) => ?_)
      · refine And.intro (show 0 ≤ (222 + (3 * i)) ∧ (222 + (3 * i)) < 402 from by omega) ?_
        refine And.intro (fun (c7 : (σ 52 (222 + (3 * i))) = 21) => ?_) (fun (c8 : ¬ (σ 52 (222 + (3 * i))) = 21) => ?_)
        · refine And.intro (show -2147483648 ≤ ((xdz (σ 52) 221 i.toNat) + (-1)) ∧ ((xdz (σ 52) 221 i.toNat) + (-1)) ≤ 2147483647 from by omega) ?_
          refine And.intro (show -2147483648 ≤ (((xdz (σ 52) 221 i.toNat) + (-1)) - 1) ∧ (((xdz (σ 52) 221 i.toNat) + (-1)) - 1) ≤ 2147483647 from by omega) ?_
          refine And.intro (show 0 ≤ (222 + (3 * i)) ∧ (222 + (3 * i)) < 402 from by omega) ?_
          refine And.intro (fun (c9 : ¬ (σ 52 (222 + (3 * i))) = 21) => ?_) (fun (c10 : (σ 52 (222 + (3 * i))) = 21) => ?_)
          · refine And.intro (show -2147483648 ≤ (((xdz (σ 52) 221 i.toNat) + (-1)) - 1) ∧ (((xdz (σ 52) 221 i.toNat) + (-1)) - 1) ≤ 2147483647 from by omega) ?_
            refine And.intro (show 0 ≤ (((xdz (σ 52) 221 i.toNat) + (-1)) - 1) ∧ (((xdz (σ 52) 221 i.toNat) + (-1)) - 1) < 45 from by omega) ?_
            have f11 : 0 ≤ σ 73 (((xdz (σ 52) 221 i.toNat) + (-1)) - 1) ∧ σ 73 (((xdz (σ 52) 221 i.toNat) + (-1)) - 1) ≤ 1 := zb B hb (t := 73) (a := 0) (n := 45) (i := ((xdz (σ 52) 221 i.toNat) + (-1)) - 1) (by decide +kernel) (by omega) (by omega)
            refine And.intro (fun (c12 : ¬ (σ 73 (((xdz (σ 52) 221 i.toNat) + (-1)) - 1)) = 0) => ?_) (fun (c13 : (σ 73 (((xdz (σ 52) 221 i.toNat) + (-1)) - 1)) = 0) => ?_)
            · refine And.intro (show 0 ≤ (((xdz (σ 52) 221 i.toNat) + (-1)) - 1) ∧ (((xdz (σ 52) 221 i.toNat) + (-1)) - 1) < 45 from by omega) ?_
              refine And.intro (show 0 ≤ 1 ∧ 1 ≤ 1 from by omega) ?_
              refine And.intro (show 0 ≤ 1 ∧ 1 ≤ 1 from by omega) ?_
              refine And.intro (show -2147483648 ≤ (i + 1) ∧ (i + 1) ≤ 2147483647 from by omega) ?_
              show zG E gJ1 md227 w gm_227 4 [(0, .inr (.inl 12)), (1, .inl k), (2, .inl ((xdz (σ 52) 221 i.toNat) + (-1))), (3, .inl (i + 1))] (vup σ 73 (((xdz (σ 52) 221 i.toNat) + (-1)) - 1) 1) K
              have e : (xdz (σ 52) 221 i.toNat) + (-1) = xdz (σ 52) 221 (i + 1).toNat := by
                rw [xdz_st h0]
                simp only [*, if_true, if_false, true_or, or_true, or_self]
                try first | omega | (split <;> omega)
              rw [e]
              exact ih (i + 1) _ (by omega) (by omega) (by omega) (vX_fr hX rfl rfl) (show (σ 52 221) = c from hc)
            · refine And.intro (show 0 ≤ ((xdz (σ 52) 221 i.toNat) + (-1)) ∧ ((xdz (σ 52) 221 i.toNat) + (-1)) < 45 from by omega) ?_
              have f14 : 0 ≤ σ 73 ((xdz (σ 52) 221 i.toNat) + (-1)) ∧ σ 73 ((xdz (σ 52) 221 i.toNat) + (-1)) ≤ 1 := zb B hb (t := 73) (a := 0) (n := 45) (i := (xdz (σ 52) 221 i.toNat) + (-1)) (by decide +kernel) (by omega) (by omega)
              refine And.intro (fun (c15 : (σ 73 ((xdz (σ 52) 221 i.toNat) + (-1))) = 0) => ?_) (fun (c16 : ¬ (σ 73 ((xdz (σ 52) 221 i.toNat) + (-1))) = 0) => ?_)
              · refine And.intro (show 0 ≤ (((xdz (σ 52) 221 i.toNat) + (-1)) - 1) ∧ (((xdz (σ 52) 221 i.toNat) + (-1)) - 1) < 45 from by omega) ?_
                refine And.intro (show 0 ≤ 0 ∧ 0 ≤ 1 from by omega) ?_
                refine And.intro (show 0 ≤ 0 ∧ 0 ≤ 1 from by omega) ?_
                refine And.intro (show -2147483648 ≤ (i + 1) ∧ (i + 1) ≤ 2147483647 from by omega) ?_
                show zG E gJ1 md227 w gm_227 4 [(0, .inr (.inl 12)), (1, .inl k), (2, .inl ((xdz (σ 52) 221 i.toNat) + (-1))), (3, .inl (i + 1))] (vup σ 73 (((xdz (σ 52) 221 i.toNat) + (-1)) - 1) 0) K
                have e : (xdz (σ 52) 221 i.toNat) + (-1) = xdz (σ 52) 221 (i + 1).toNat := by
                  rw [xdz_st h0]
                  simp only [*, if_true, if_false, true_or, or_true, or_self]
                  try first | omega | (split <;> omega)
                rw [e]
                exact ih (i + 1) _ (by omega) (by omega) (by omega) (vX_fr hX rfl rfl) (show (σ 52 221) = c from hc)
              · refine And.intro (show 0 ≤ (((xdz (σ 52) 221 i.toNat) + (-1)) - 1) ∧ (((xdz (σ 52) 221 i.toNat) + (-1)) - 1) < 45 from by omega) ?_
                refine And.intro (show 0 ≤ 1 ∧ 1 ≤ 1 from by omega) ?_
                refine And.intro (show 0 ≤ 1 ∧ 1 ≤ 1 from by omega) ?_
                refine And.intro (show -2147483648 ≤ (i + 1) ∧ (i + 1) ≤ 2147483647 from by omega) ?_
                show zG E gJ1 md227 w gm_227 4 [(0, .inr (.inl 12)), (1, .inl k), (2, .inl ((xdz (σ 52) 221 i.toNat) + (-1))), (3, .inl (i + 1))] (vup σ 73 (((xdz (σ 52) 221 i.toNat) + (-1)) - 1) 1) K
                have e : (xdz (σ 52) 221 i.toNat) + (-1) = xdz (σ 52) 221 (i + 1).toNat := by
                  rw [xdz_st h0]
                  simp only [*, if_true, if_false, true_or, or_true, or_self]
                  try first | omega | (split <;> omega)
                rw [e]
                exact ih (i + 1) _ (by omega) (by omega) (by omega) (vX_fr hX rfl rfl) (show (σ 52 221) = c from hc)
          · refine And.intro (show -2147483648 ≤ (((xdz (σ 52) 221 i.toNat) + (-1)) - 1) ∧ (((xdz (σ 52) 221 i.toNat) + (-1)) - 1) ≤ 2147483647 from by omega) ?_
            refine And.intro (show 0 ≤ (((xdz (σ 52) 221 i.toNat) + (-1)) - 1) ∧ (((xdz (σ 52) 221 i.toNat) + (-1)) - 1) < 45 from by omega) ?_
            have f17 : 0 ≤ σ 73 (((xdz (σ 52) 221 i.toNat) + (-1)) - 1) ∧ σ 73 (((xdz (σ 52) 221 i.toNat) + (-1)) - 1) ≤ 1 := zb B hb (t := 73) (a := 0) (n := 45) (i := ((xdz (σ 52) 221 i.toNat) + (-1)) - 1) (by decide +kernel) (by omega) (by omega)
            refine And.intro (fun (c18 : (σ 73 (((xdz (σ 52) 221 i.toNat) + (-1)) - 1)) = 0) => ?_) (fun (c19 : ¬ (σ 73 (((xdz (σ 52) 221 i.toNat) + (-1)) - 1)) = 0) => ?_)
            · refine And.intro (show 0 ≤ (((xdz (σ 52) 221 i.toNat) + (-1)) - 1) ∧ (((xdz (σ 52) 221 i.toNat) + (-1)) - 1) < 45 from by omega) ?_
              refine And.intro (show 0 ≤ 0 ∧ 0 ≤ 1 from by omega) ?_
              refine And.intro (show 0 ≤ 0 ∧ 0 ≤ 1 from by omega) ?_
              refine And.intro (show -2147483648 ≤ (i + 1) ∧ (i + 1) ≤ 2147483647 from by omega) ?_
              show zG E gJ1 md227 w gm_227 4 [(0, .inr (.inl 12)), (1, .inl k), (2, .inl ((xdz (σ 52) 221 i.toNat) + (-1))), (3, .inl (i + 1))] (vup σ 73 (((xdz (σ 52) 221 i.toNat) + (-1)) - 1) 0) K
              have e : (xdz (σ 52) 221 i.toNat) + (-1) = xdz (σ 52) 221 (i + 1).toNat := by
                rw [xdz_st h0]
                simp only [*, if_true, if_false, true_or, or_true, or_self]
                try first | omega | (split <;> omega)
              rw [e]
              exact ih (i + 1) _ (by omega) (by omega) (by omega) (vX_fr hX rfl rfl) (show (σ 52 221) = c from hc)
            · refine And.intro (show 0 ≤ ((xdz (σ 52) 221 i.toNat) + (-1)) ∧ ((xdz (σ 52) 221 i.toNat) + (-1)) < 45 from by omega) ?_
              have f20 : 0 ≤ σ 73 ((xdz (σ 52) 221 i.toNat) + (-1)) ∧ σ 73 ((xdz (σ 52) 221 i.toNat) + (-1)) ≤ 1 := zb B hb (t := 73) (a := 0) (n := 45) (i := (xdz (σ 52) 221 i.toNat) + (-1)) (by decide +kernel) (by omega) (by omega)
              refine And.intro (fun (c21 : (σ 73 ((xdz (σ 52) 221 i.toNat) + (-1))) = 0) => ?_) (fun (c22 : ¬ (σ 73 ((xdz (σ 52) 221 i.toNat) + (-1))) = 0) => ?_)
              · refine And.intro (show 0 ≤ (((xdz (σ 52) 221 i.toNat) + (-1)) - 1) ∧ (((xdz (σ 52) 221 i.toNat) + (-1)) - 1) < 45 from by omega) ?_
                refine And.intro (show 0 ≤ 0 ∧ 0 ≤ 1 from by omega) ?_
                refine And.intro (show 0 ≤ 0 ∧ 0 ≤ 1 from by omega) ?_
                refine And.intro (show -2147483648 ≤ (i + 1) ∧ (i + 1) ≤ 2147483647 from by omega) ?_
                show zG E gJ1 md227 w gm_227 4 [(0, .inr (.inl 12)), (1, .inl k), (2, .inl ((xdz (σ 52) 221 i.toNat) + (-1))), (3, .inl (i + 1))] (vup σ 73 (((xdz (σ 52) 221 i.toNat) + (-1)) - 1) 0) K
                have e : (xdz (σ 52) 221 i.toNat) + (-1) = xdz (σ 52) 221 (i + 1).toNat := by
                  rw [xdz_st h0]
                  simp only [*, if_true, if_false, true_or, or_true, or_self]
                  try first | omega | (split <;> omega)
                rw [e]
                exact ih (i + 1) _ (by omega) (by omega) (by omega) (vX_fr hX rfl rfl) (show (σ 52 221) = c from hc)
              · refine And.intro (show 0 ≤ (((xdz (σ 52) 221 i.toNat) + (-1)) - 1) ∧ (((xdz (σ 52) 221 i.toNat) + (-1)) - 1) < 45 from by omega) ?_
                refine And.intro (show 0 ≤ 1 ∧ 1 ≤ 1 from by omega) ?_
                refine And.intro (show 0 ≤ 1 ∧ 1 ≤ 1 from by omega) ?_
                refine And.intro (show -2147483648 ≤ (i + 1) ∧ (i + 1) ≤ 2147483647 from by omega) ?_
                show zG E gJ1 md227 w gm_227 4 [(0, .inr (.inl 12)), (1, .inl k), (2, .inl ((xdz (σ 52) 221 i.toNat) + (-1))), (3, .inl (i + 1))] (vup σ 73 (((xdz (σ 52) 221 i.toNat) + (-1)) - 1) 1) K
                have e : (xdz (σ 52) 221 i.toNat) + (-1) = xdz (σ 52) 221 (i + 1).toNat := by
                  rw [xdz_st h0]
                  simp only [*, if_true, if_false, true_or, or_true, or_self]
                  try first | omega | (split <;> omega)
                rw [e]
                exact ih (i + 1) _ (by omega) (by omega) (by omega) (vX_fr hX rfl rfl) (show (σ 52 221) = c from hc)
        · refine And.intro (show 0 ≤ (222 + (3 * i)) ∧ (222 + (3 * i)) < 402 from by omega) ?_
          refine And.intro (fun (c23 : ¬ (σ 52 (222 + (3 * i))) = 22) => ?_) (fun (c24 : (σ 52 (222 + (3 * i))) = 22) => ?_)
          · refine And.intro (show 0 ≤ (222 + (3 * i)) ∧ (222 + (3 * i)) < 402 from by omega) ?_
            refine And.intro (show -2147483648 ≤ ((222 + (3 * i)) + 1) ∧ ((222 + (3 * i)) + 1) ≤ 2147483647 from by omega) ?_
            refine And.intro (show 0 ≤ ((222 + (3 * i)) + 1) ∧ ((222 + (3 * i)) + 1) < 402 from by omega) ?_
            have f25 : (-2147483648) ≤ σ 52 ((222 + (3 * i)) + 1) ∧ σ 52 ((222 + (3 * i)) + 1) ≤ 2147483647 := zb B hb (t := 52) (a := 222) (n := 402) (i := (222 + (3 * i)) + 1) (by decide +kernel) (by omega) (by omega)
            refine And.intro (show -2147483648 ≤ ((222 + (3 * i)) + 2) ∧ ((222 + (3 * i)) + 2) ≤ 2147483647 from by omega) ?_
            refine And.intro (show 0 ≤ ((222 + (3 * i)) + 2) ∧ ((222 + (3 * i)) + 2) < 402 from by omega) ?_
            have f26 : (-2147483648) ≤ σ 52 ((222 + (3 * i)) + 2) ∧ σ 52 ((222 + (3 * i)) + 2) ≤ 2147483647 := zb B hb (t := 52) (a := 222) (n := 402) (i := (222 + (3 * i)) + 2) (by decide +kernel) (by omega) (by omega)
            refine And.intro ⟨rfl, (show _ ∧ _ from hk), (show _ ∧ _ from i32b B hb (i := (222 + (3 * i))) (by omega)), (show _ ∧ _ from i32b B hb (i := ((222 + (3 * i)) + 1)) (by omega)), (show _ ∧ _ from i32b B hb (i := ((222 + (3 * i)) + 2)) (by omega)), trivial⟩ (And.intro hX (fun (z27 : Int) (a28 : 0 ≤ z27 ∧ z27 ≤ 1) => ?_))
            refine And.intro (show 0 ≤ (xdz (σ 52) 221 i.toNat) ∧ (xdz (σ 52) 221 i.toNat) < 45 from by omega) ?_
            refine And.intro (show 0 ≤ z27 ∧ z27 ≤ 1 from by omega) ?_
            refine And.intro (show 0 ≤ z27 ∧ z27 ≤ 1 from by omega) ?_
            refine And.intro (show -2147483648 ≤ ((xdz (σ 52) 221 i.toNat) + 1) ∧ ((xdz (σ 52) 221 i.toNat) + 1) ≤ 2147483647 from by omega) ?_
            refine And.intro (show -2147483648 ≤ (i + 1) ∧ (i + 1) ≤ 2147483647 from by omega) ?_
            show zG E gJ1 md227 w gm_227 4 [(0, .inr (.inl 12)), (1, .inl k), (2, .inl ((xdz (σ 52) 221 i.toNat) + 1)), (3, .inl (i + 1))] (vup σ 73 (xdz (σ 52) 221 i.toNat) z27) K
            have e : (xdz (σ 52) 221 i.toNat) + 1 = xdz (σ 52) 221 (i + 1).toNat := by
              rw [xdz_st h0]
              simp only [*, if_true, if_false, true_or, or_true, or_self]
              try first | omega | (split <;> omega)
            rw [e]
            exact ih (i + 1) _ (by omega) (by omega) (by omega) (vX_fr hX rfl rfl) (show (σ 52 221) = c from hc)
          · refine And.intro (show -2147483648 ≤ ((xdz (σ 52) 221 i.toNat) + (-1)) ∧ ((xdz (σ 52) 221 i.toNat) + (-1)) ≤ 2147483647 from by omega) ?_
            refine And.intro (show -2147483648 ≤ (((xdz (σ 52) 221 i.toNat) + (-1)) - 1) ∧ (((xdz (σ 52) 221 i.toNat) + (-1)) - 1) ≤ 2147483647 from by omega) ?_
            refine And.intro (show 0 ≤ (222 + (3 * i)) ∧ (222 + (3 * i)) < 402 from by omega) ?_
            refine And.intro (fun (c29 : ¬ (σ 52 (222 + (3 * i))) = 21) => ?_) (fun (c30 : (σ 52 (222 + (3 * i))) = 21) => ?_)
            · refine And.intro (show -2147483648 ≤ (((xdz (σ 52) 221 i.toNat) + (-1)) - 1) ∧ (((xdz (σ 52) 221 i.toNat) + (-1)) - 1) ≤ 2147483647 from by omega) ?_
              refine And.intro (show 0 ≤ (((xdz (σ 52) 221 i.toNat) + (-1)) - 1) ∧ (((xdz (σ 52) 221 i.toNat) + (-1)) - 1) < 45 from by omega) ?_
              have f31 : 0 ≤ σ 73 (((xdz (σ 52) 221 i.toNat) + (-1)) - 1) ∧ σ 73 (((xdz (σ 52) 221 i.toNat) + (-1)) - 1) ≤ 1 := zb B hb (t := 73) (a := 0) (n := 45) (i := ((xdz (σ 52) 221 i.toNat) + (-1)) - 1) (by decide +kernel) (by omega) (by omega)
              refine And.intro (fun (c32 : ¬ (σ 73 (((xdz (σ 52) 221 i.toNat) + (-1)) - 1)) = 0) => ?_) (fun (c33 : (σ 73 (((xdz (σ 52) 221 i.toNat) + (-1)) - 1)) = 0) => ?_)
              · refine And.intro (show 0 ≤ (((xdz (σ 52) 221 i.toNat) + (-1)) - 1) ∧ (((xdz (σ 52) 221 i.toNat) + (-1)) - 1) < 45 from by omega) ?_
                refine And.intro (show 0 ≤ 1 ∧ 1 ≤ 1 from by omega) ?_
                refine And.intro (show 0 ≤ 1 ∧ 1 ≤ 1 from by omega) ?_
                refine And.intro (show -2147483648 ≤ (i + 1) ∧ (i + 1) ≤ 2147483647 from by omega) ?_
                show zG E gJ1 md227 w gm_227 4 [(0, .inr (.inl 12)), (1, .inl k), (2, .inl ((xdz (σ 52) 221 i.toNat) + (-1))), (3, .inl (i + 1))] (vup σ 73 (((xdz (σ 52) 221 i.toNat) + (-1)) - 1) 1) K
                have e : (xdz (σ 52) 221 i.toNat) + (-1) = xdz (σ 52) 221 (i + 1).toNat := by
                  rw [xdz_st h0]
                  simp only [*, if_true, if_false, true_or, or_true, or_self]
                  try first | omega | (split <;> omega)
                rw [e]
                exact ih (i + 1) _ (by omega) (by omega) (by omega) (vX_fr hX rfl rfl) (show (σ 52 221) = c from hc)
              · refine And.intro (show 0 ≤ ((xdz (σ 52) 221 i.toNat) + (-1)) ∧ ((xdz (σ 52) 221 i.toNat) + (-1)) < 45 from by omega) ?_
                have f34 : 0 ≤ σ 73 ((xdz (σ 52) 221 i.toNat) + (-1)) ∧ σ 73 ((xdz (σ 52) 221 i.toNat) + (-1)) ≤ 1 := zb B hb (t := 73) (a := 0) (n := 45) (i := (xdz (σ 52) 221 i.toNat) + (-1)) (by decide +kernel) (by omega) (by omega)
                refine And.intro (fun (c35 : (σ 73 ((xdz (σ 52) 221 i.toNat) + (-1))) = 0) => ?_) (fun (c36 : ¬ (σ 73 ((xdz (σ 52) 221 i.toNat) + (-1))) = 0) => ?_)
                · refine And.intro (show 0 ≤ (((xdz (σ 52) 221 i.toNat) + (-1)) - 1) ∧ (((xdz (σ 52) 221 i.toNat) + (-1)) - 1) < 45 from by omega) ?_
                  refine And.intro (show 0 ≤ 0 ∧ 0 ≤ 1 from by omega) ?_
                  refine And.intro (show 0 ≤ 0 ∧ 0 ≤ 1 from by omega) ?_
                  refine And.intro (show -2147483648 ≤ (i + 1) ∧ (i + 1) ≤ 2147483647 from by omega) ?_
                  show zG E gJ1 md227 w gm_227 4 [(0, .inr (.inl 12)), (1, .inl k), (2, .inl ((xdz (σ 52) 221 i.toNat) + (-1))), (3, .inl (i + 1))] (vup σ 73 (((xdz (σ 52) 221 i.toNat) + (-1)) - 1) 0) K
                  have e : (xdz (σ 52) 221 i.toNat) + (-1) = xdz (σ 52) 221 (i + 1).toNat := by
                    rw [xdz_st h0]
                    simp only [*, if_true, if_false, true_or, or_true, or_self]
                    try first | omega | (split <;> omega)
                  rw [e]
                  exact ih (i + 1) _ (by omega) (by omega) (by omega) (vX_fr hX rfl rfl) (show (σ 52 221) = c from hc)
                · refine And.intro (show 0 ≤ (((xdz (σ 52) 221 i.toNat) + (-1)) - 1) ∧ (((xdz (σ 52) 221 i.toNat) + (-1)) - 1) < 45 from by omega) ?_
                  refine And.intro (show 0 ≤ 1 ∧ 1 ≤ 1 from by omega) ?_
                  refine And.intro (show 0 ≤ 1 ∧ 1 ≤ 1 from by omega) ?_
                  refine And.intro (show -2147483648 ≤ (i + 1) ∧ (i + 1) ≤ 2147483647 from by omega) ?_
                  show zG E gJ1 md227 w gm_227 4 [(0, .inr (.inl 12)), (1, .inl k), (2, .inl ((xdz (σ 52) 221 i.toNat) + (-1))), (3, .inl (i + 1))] (vup σ 73 (((xdz (σ 52) 221 i.toNat) + (-1)) - 1) 1) K
                  have e : (xdz (σ 52) 221 i.toNat) + (-1) = xdz (σ 52) 221 (i + 1).toNat := by
                    rw [xdz_st h0]
                    simp only [*, if_true, if_false, true_or, or_true, or_self]
                    try first | omega | (split <;> omega)
                  rw [e]
                  exact ih (i + 1) _ (by omega) (by omega) (by omega) (vX_fr hX rfl rfl) (show (σ 52 221) = c from hc)
            · refine And.intro (show -2147483648 ≤ (((xdz (σ 52) 221 i.toNat) + (-1)) - 1) ∧ (((xdz (σ 52) 221 i.toNat) + (-1)) - 1) ≤ 2147483647 from by omega) ?_
              refine And.intro (show 0 ≤ (((xdz (σ 52) 221 i.toNat) + (-1)) - 1) ∧ (((xdz (σ 52) 221 i.toNat) + (-1)) - 1) < 45 from by omega) ?_
              have f37 : 0 ≤ σ 73 (((xdz (σ 52) 221 i.toNat) + (-1)) - 1) ∧ σ 73 (((xdz (σ 52) 221 i.toNat) + (-1)) - 1) ≤ 1 := zb B hb (t := 73) (a := 0) (n := 45) (i := ((xdz (σ 52) 221 i.toNat) + (-1)) - 1) (by decide +kernel) (by omega) (by omega)
              refine And.intro (fun (c38 : (σ 73 (((xdz (σ 52) 221 i.toNat) + (-1)) - 1)) = 0) => ?_) (fun (c39 : ¬ (σ 73 (((xdz (σ 52) 221 i.toNat) + (-1)) - 1)) = 0) => ?_)
              · refine And.intro (show 0 ≤ (((xdz (σ 52) 221 i.toNat) + (-1)) - 1) ∧ (((xdz (σ 52) 221 i.toNat) + (-1)) - 1) < 45 from by omega) ?_
                refine And.intro (show 0 ≤ 0 ∧ 0 ≤ 1 from by omega) ?_
                refine And.intro (show 0 ≤ 0 ∧ 0 ≤ 1 from by omega) ?_
                refine And.intro (show -2147483648 ≤ (i + 1) ∧ (i + 1) ≤ 2147483647 from by omega) ?_
                show zG E gJ1 md227 w gm_227 4 [(0, .inr (.inl 12)), (1, .inl k), (2, .inl ((xdz (σ 52) 221 i.toNat) + (-1))), (3, .inl (i + 1))] (vup σ 73 (((xdz (σ 52) 221 i.toNat) + (-1)) - 1) 0) K
                have e : (xdz (σ 52) 221 i.toNat) + (-1) = xdz (σ 52) 221 (i + 1).toNat := by
                  rw [xdz_st h0]
                  simp only [*, if_true, if_false, true_or, or_true, or_self]
                  try first | omega | (split <;> omega)
                rw [e]
                exact ih (i + 1) _ (by omega) (by omega) (by omega) (vX_fr hX rfl rfl) (show (σ 52 221) = c from hc)
              · refine And.intro (show 0 ≤ ((xdz (σ 52) 221 i.toNat) + (-1)) ∧ ((xdz (σ 52) 221 i.toNat) + (-1)) < 45 from by omega) ?_
                have f40 : 0 ≤ σ 73 ((xdz (σ 52) 221 i.toNat) + (-1)) ∧ σ 73 ((xdz (σ 52) 221 i.toNat) + (-1)) ≤ 1 := zb B hb (t := 73) (a := 0) (n := 45) (i := (xdz (σ 52) 221 i.toNat) + (-1)) (by decide +kernel) (by omega) (by omega)
                refine And.intro (fun (c41 : (σ 73 ((xdz (σ 52) 221 i.toNat) + (-1))) = 0) => ?_) (fun (c42 : ¬ (σ 73 ((xdz (σ 52) 221 i.toNat) + (-1))) = 0) => ?_)
                · refine And.intro (show 0 ≤ (((xdz (σ 52) 221 i.toNat) + (-1)) - 1) ∧ (((xdz (σ 52) 221 i.toNat) + (-1)) - 1) < 45 from by omega) ?_
                  refine And.intro (show 0 ≤ 0 ∧ 0 ≤ 1 from by omega) ?_
                  refine And.intro (show 0 ≤ 0 ∧ 0 ≤ 1 from by omega) ?_
                  refine And.intro (show -2147483648 ≤ (i + 1) ∧ (i + 1) ≤ 2147483647 from by omega) ?_
                  show zG E gJ1 md227 w gm_227 4 [(0, .inr (.inl 12)), (1, .inl k), (2, .inl ((xdz (σ 52) 221 i.toNat) + (-1))), (3, .inl (i + 1))] (vup σ 73 (((xdz (σ 52) 221 i.toNat) + (-1)) - 1) 0) K
                  have e : (xdz (σ 52) 221 i.toNat) + (-1) = xdz (σ 52) 221 (i + 1).toNat := by
                    rw [xdz_st h0]
                    simp only [*, if_true, if_false, true_or, or_true, or_self]
                    try first | omega | (split <;> omega)
                  rw [e]
                  exact ih (i + 1) _ (by omega) (by omega) (by omega) (vX_fr hX rfl rfl) (show (σ 52 221) = c from hc)
                · refine And.intro (show 0 ≤ (((xdz (σ 52) 221 i.toNat) + (-1)) - 1) ∧ (((xdz (σ 52) 221 i.toNat) + (-1)) - 1) < 45 from by omega) ?_
                  refine And.intro (show 0 ≤ 1 ∧ 1 ≤ 1 from by omega) ?_
                  refine And.intro (show 0 ≤ 1 ∧ 1 ≤ 1 from by omega) ?_
                  refine And.intro (show -2147483648 ≤ (i + 1) ∧ (i + 1) ≤ 2147483647 from by omega) ?_
                  show zG E gJ1 md227 w gm_227 4 [(0, .inr (.inl 12)), (1, .inl k), (2, .inl ((xdz (σ 52) 221 i.toNat) + (-1))), (3, .inl (i + 1))] (vup σ 73 (((xdz (σ 52) 221 i.toNat) + (-1)) - 1) 1) K
                  have e : (xdz (σ 52) 221 i.toNat) + (-1) = xdz (σ 52) 221 (i + 1).toNat := by
                    rw [xdz_st h0]
                    simp only [*, if_true, if_false, true_or, or_true, or_self]
                    try first | omega | (split <;> omega)
                  rw [e]
                  exact ih (i + 1) _ (by omega) (by omega) (by omega) (vX_fr hX rfl rfl) (show (σ 52 221) = c from hc)
      · refine And.intro (show -2147483648 ≤ ((xdz (σ 52) 221 i.toNat) - 1) ∧ ((xdz (σ 52) 221 i.toNat) - 1) ≤ 2147483647 from by omega) ?_
        refine And.intro (show -2147483648 ≤ ((xdz (σ 52) 221 i.toNat) - 1) ∧ ((xdz (σ 52) 221 i.toNat) - 1) ≤ 2147483647 from by omega) ?_
        refine And.intro (show 0 ≤ ((xdz (σ 52) 221 i.toNat) - 1) ∧ ((xdz (σ 52) 221 i.toNat) - 1) < 45 from by omega) ?_
        have f43 : 0 ≤ σ 73 ((xdz (σ 52) 221 i.toNat) - 1) ∧ σ 73 ((xdz (σ 52) 221 i.toNat) - 1) ≤ 1 := zb B hb (t := 73) (a := 0) (n := 45) (i := (xdz (σ 52) 221 i.toNat) - 1) (by decide +kernel) (by omega) (by omega)
        refine And.intro (fun (c44 : ¬ (σ 73 ((xdz (σ 52) 221 i.toNat) - 1)) = 0) => ?_) (fun (c45 : (σ 73 ((xdz (σ 52) 221 i.toNat) - 1)) = 0) => ?_)
        · refine And.intro (show 0 ≤ ((xdz (σ 52) 221 i.toNat) - 1) ∧ ((xdz (σ 52) 221 i.toNat) - 1) < 45 from by omega) ?_
          refine And.intro (show 0 ≤ 0 ∧ 0 ≤ 1 from by omega) ?_
          refine And.intro (show 0 ≤ 0 ∧ 0 ≤ 1 from by omega) ?_
          refine And.intro (show -2147483648 ≤ (i + 1) ∧ (i + 1) ≤ 2147483647 from by omega) ?_
          show zG E gJ1 md227 w gm_227 4 [(0, .inr (.inl 12)), (1, .inl k), (2, .inl (xdz (σ 52) 221 i.toNat)), (3, .inl (i + 1))] (vup σ 73 ((xdz (σ 52) 221 i.toNat) - 1) 0) K
          have e : xdz (σ 52) 221 i.toNat = xdz (σ 52) 221 (i + 1).toNat := by
            rw [xdz_st h0]
            simp only [*, if_true, if_false, true_or, or_true, or_self]
            try first | omega | (split <;> omega)
          rw [e]
          exact ih (i + 1) _ (by omega) (by omega) (by omega) (vX_fr hX rfl rfl) (show (σ 52 221) = c from hc)
        · refine And.intro (show 0 ≤ ((xdz (σ 52) 221 i.toNat) - 1) ∧ ((xdz (σ 52) 221 i.toNat) - 1) < 45 from by omega) ?_
          refine And.intro (show 0 ≤ 1 ∧ 1 ≤ 1 from by omega) ?_
          refine And.intro (show 0 ≤ 1 ∧ 1 ≤ 1 from by omega) ?_
          refine And.intro (show -2147483648 ≤ (i + 1) ∧ (i + 1) ≤ 2147483647 from by omega) ?_
          show zG E gJ1 md227 w gm_227 4 [(0, .inr (.inl 12)), (1, .inl k), (2, .inl (xdz (σ 52) 221 i.toNat)), (3, .inl (i + 1))] (vup σ 73 ((xdz (σ 52) 221 i.toNat) - 1) 1) K
          have e : xdz (σ 52) 221 i.toNat = xdz (σ 52) 221 (i + 1).toNat := by
            rw [xdz_st h0]
            simp only [*, if_true, if_false, true_or, or_true, or_self]
            try first | omega | (split <;> omega)
          rw [e]
          exact ih (i + 1) _ (by omega) (by omega) (by omega) (vX_fr hX rfl rfl) (show (σ 52 221) = c from hc)
theorem z_sai0 (B : zB E) (h222 : zH E gJ1 (gm_222, 6) gc_222_0) {k : Int} (hk : 0 ≤ k ∧ k ≤ 11) (hK : ∀ (z : Int) (σ2 : vS), 0 ≤ z ∧ z ≤ 1 → vX σ2 → K (some (.inl z)) σ2) (hX : vX σ) : zG E gJ1 md227 w gm_227 0 [(0, .inr (.inl 12)), (1, .inl k)] σ K := by
  refine zbd (fun hb => zgo B (zS_cons (z_conP B (m := 222) rfl h222 rfl rfl) zS_nil) [] [(4, [0, 1, 2, 3])] (fun m => Nat.beq m.2.2.2.2.1 168) (by decide +kernel) ?_)
  show zG E gJ1 md227 w gm_227 4 [(0, .inr (.inl 12)), (1, .inl k), (2, .inl 0), (3, .inl 0)] σ K
  exact z_sai1 B h222 hk hK 54 0 σ (by omega) (by omega) (by omega) hX rfl
theorem zc_227 (B : zB E) (h222 : zH E gJ1 (gm_222, 6) gc_222_0) : zH E gJ1 (gm_227, 5) gc_227_0 := by
  refine z_holds B (by decide) (fun w vs σ hv hX hb => ?_)
  obtain ⟨k, rfl, hk⟩ := fits2 (a := 0) (b := 11) (t := 12) hv
  exact z_sai0 B h222 hk (fun z σ2 hz hX2 => ⟨hX2, _, List.mem_cons_self, hz⟩) hX
end Z7
