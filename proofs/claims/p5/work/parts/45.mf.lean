/-! CALLS BY CONTRACT; EXACT WALKS: image, restore, walked, corridor, isSaid -/
noncomputable section
/-- words on a call that comes of a contract: no answer; an int; an int, and nothing is written -/
def zsN (E : zE) (md : aMd) (c : aCon) : vSp := fun vs σ K => vFits c.1 vs ∧ vX σ ∧ amds md c.2.2.2 = true ∧ ∀ σ2 : vS, vX σ2 → vBd (zso E) gST zuq σ2 → vFm zuq c.2.2.2 σ σ2 → K none σ2
def zsP (c : aCon) (lo hi : Int) : vSp := fun vs σ K => vFits c.1 vs ∧ vX σ ∧ ∀ z : Int, lo ≤ z ∧ z ≤ hi → K (some (.inl z)) σ
def md217 : aMd := gc_217_0.2.2.2
def md261 : aMd := gc_261_0.2.2.2
def md283 : aMd := gc_283_0.2.2.2
def md194 : aMd := gc_194_0.2.2.2
def md227 : aMd := gc_227_0.2.2.2
def zrg (t : Nat) : List (Nat × Int × Int) := match gST t with
  | some (.inr ob) => ob.2.2.1
  | _ => []
end
section Z6
variable {E : zE} {J : List aJ} {md : aMd} {w : va_W} {σ : vS} {K : vK}
theorem z_conN (B : zB E) {q : eM × Nat} {c : aCon} {m : Nat} (hm : gMT m = some q) (hc : zH E J q c) (h0 : c.2.2.1 = [(none, [])]) : zOK E J md w m (zsN E md c) := by
  intro q2 hq vs σ K h
  rw [hm] at hq
  cases hq
  obtain ⟨h1, h2, h3, h4⟩ := h
  refine v_con z_vXh ⟨rfl, rfl⟩ ⟨B.2.2.2.2.2.2.2 52 rfl, B.2.2.2.2.2.2.2 74 rfl⟩ B.2.2.2.2.2.2.1 hc ⟨h1, h2, h3, fun al hal ret σ2 r1 r2 r3 r4 _ => ?_⟩ (fun al hal f hf => by
    rw [h0] at hal
    rw [List.mem_singleton.mp hal] at hf
    exact absurd hf List.not_mem_nil)
  rw [h0] at hal
  rw [List.mem_singleton.mp hal] at r1
  cases ret with
  | none => exact h4 σ2 r2 r3 r4
  | some v => exact absurd r1 id
theorem z_conP (B : zB E) {q : eM × Nat} {c : aCon} {m : Nat} {lo hi : Int} (hm : gMT m = some q) (hc : zH E J q c) (hn : c.2.2.2 = []) (h0 : c.2.2.1 = [(some (.inl (lo, hi)), [])]) : zOK E J md w m (zsP c lo hi) := by
  intro q2 hq vs σ K h
  rw [hm] at hq
  cases hq
  obtain ⟨h1, h2, h3⟩ := h
  intro Kg lv stA ws hW hl hs hK
  have e0 := vsR_nil hs
  subst e0
  obtain ⟨asx, k1, k2⟩ := vargs_inv hl
  refine gG_sub k2 (gG_mono ?_ (hc asx ws (w_of z_vXh ⟨rfl, rfl⟩ hW h2) hW.2.1 (v_vsOk h1 k1)))
  intro rv ws2 ⟨p1, p2, p3, al, p4, p5, p6⟩
  rw [hn] at p3
  have hW2 : vW _ (zso E) (zad E) gST J md w zuq ws2 σ := ⟨⟨p1.1, p1.2.1, fun o t q hq ht => (p1.2.2 o t q hq ht).1⟩, p2, fRel_tr hW.2.2.1 p3 (amds_ok (show amds md [] = true from rfl)), fun o t i z ho hu hz => by
    rw [p3 o t i ho (fun q hq => absurd hq List.not_mem_nil)] at hz
    exact hW.2.2.2 o t i z ho hu hz⟩
  rw [h0] at p4
  rw [List.mem_singleton.mp p4] at p5
  cases rv with
  | none => exact absurd p5 id
  | some x =>
    obtain ⟨z, rfl, z1, z2⟩ := (show vOk (zso E) (zad E) (.inl (lo, hi)) x from p5)
    exact hK _ σ ws2 _ (h3 z.toInt ⟨z1, z2⟩) hW2 ⟨z, rfl, rfl⟩
theorem vFm_at {mods : aMd} {σ2 : vS} (h : vFm zuq mods σ σ2) {t : Nat} (hu : zuq t = true) (hn : (mods.all fun q => bif Nat.beq q.1 t then false else true) = true) : σ2 t = σ t := funext fun i => h t i hu (fun q hq hh => by
  have := List.all_eq_true.mp hn q hq
  rw [hh.1, Nat.beq_refl] at this
  cases this)
/-- a sentence, copied -/
theorem xdz_cp {g h : Int → Int} {a c : Int} (he : ∀ j : Int, 0 ≤ j → j < 181 → h (c + j) = g (a + j)) : ∀ i : Nat, (i : Int) ≤ 53 → xdz h c i = xdz g a i
  | 0, _ => rfl
  | i + 1, hi => by
    show xdz h c i + _ = xdz g a i + _
    have e := he (1 + 3 * (i : Int)) (by omega) (by omega)
    rw [← Int.add_assoc, ← Int.add_assoc] at e
    rw [xdz_cp he i (by omega), e]
theorem xVPz_cp {g h : Int → Int} {a c : Int} (he : ∀ j : Int, 0 ≤ j → j < 181 → h (c + j) = g (a + j)) (hb : g a ≤ 53) (hx : xVPz g a) : xVPz h c := by
  intro i hi
  have e0 := he 0 (by omega) (by omega)
  rw [Int.add_zero, Int.add_zero] at e0
  rw [e0] at hi
  have e := he (1 + 3 * (i : Int)) (by omega) (by omega)
  rw [← Int.add_assoc, ← Int.add_assoc] at e
  rw [e, xdz_cp he i (by omega)]
  exact hx i hi
theorem z_rg : (List.range 402).all (fun j => decide (rgAt (zrg 52) j = rgAt (zrg 74) j) && decide (rgAt (zrg 52) j = rgAt (zrg 74) (402 + j))) = true := by decide +kernel
theorem z_bd (B : zB E) (hb : vBd (zso E) gST zuq σ) {t n : Nat} (hu : zuq t = true) (hs : ∃ rg u, gST t = some (.inr (0, n, rg, u)) ∧ zrg t = rg) {j : Nat} (hj : j < n) : ∃ q, rgAt (zrg t) j = some q ∧ q.1 ≤ σ t (j : Int) ∧ σ t (j : Int) ≤ q.2 := by
  obtain ⟨rg, u, h1, h2⟩ := hs
  rw [h2]
  exact (hb t hu (B.2.2.2.2.2.2.2 t hu)).2 _ h1 (by show 0 < 3; decide) j hj
theorem z_im (B : zB E) (hb : vBd (zso E) gST zuq σ) {k i : Int} (hk : 0 ≤ k ∧ k ≤ 1) (h0 : 0 ≤ i) (h1 : i < 402) : ∀ q : Int × Int, rgAt (zrg 74) ((402 * k) + i).toNat = some q → q.1 ≤ σ 52 i ∧ σ 52 i ≤ q.2 := by
  intro q hq
  obtain ⟨q2, g1, g2⟩ := z_bd B hb (t := 52) (n := 402) rfl ⟨_, _, rfl, rfl⟩ (j := i.toNat) (by omega)
  have hr := List.all_eq_true.mp z_rg i.toNat (List.mem_range.mpr (by omega))
  rw [Bool.and_eq_true, decide_eq_true_eq, decide_eq_true_eq] at hr
  have e : ((i.toNat : Nat) : Int) = i := by omega
  rw [e] at g2
  rcases (show k = 0 ∨ k = 1 by omega) with rfl | rfl
  · rw [show ((402 * 0) + i : Int).toNat = i.toNat by omega, ← hr.1, g1] at hq
    cases hq
    exact g2
  · rw [show ((402 * 1) + i : Int).toNat = 402 + i.toNat by omega, ← hr.2, g1] at hq
    cases hq
    exact g2
theorem z_re (B : zB E) (hb : vBd (zso E) gST zuq σ) {k i : Int} (hk : 0 ≤ k ∧ k ≤ 1) (h0 : 0 ≤ i) (h1 : i < 402) : ∀ q : Int × Int, rgAt (zrg 52) i.toNat = some q → q.1 ≤ σ 74 ((402 * k) + i) ∧ σ 74 ((402 * k) + i) ≤ q.2 := by
  intro q hq
  obtain ⟨q2, g1, g2⟩ := z_bd B hb (t := 74) (n := 804) rfl ⟨_, _, rfl, rfl⟩ (j := ((402 * k) + i).toNat) (by omega)
  have hr := List.all_eq_true.mp z_rg i.toNat (List.mem_range.mpr (by omega))
  rw [Bool.and_eq_true, decide_eq_true_eq, decide_eq_true_eq] at hr
  have e : ((((402 * k) + i).toNat : Nat) : Int) = (402 * k) + i := by omega
  rw [e] at g2
  rcases (show k = 0 ∨ k = 1 by omega) with rfl | rfl
  · rw [show ((402 * 0) + i : Int).toNat = i.toNat by omega, ← hr.1, hq] at g1
    cases g1
    exact g2
  · rw [show ((402 * 1) + i : Int).toNat = 402 + i.toNat by omega, ← hr.2, hq] at g1
    cases g1
    exact g2
theorem z_ima2 (B : zB E) {σ0 : vS} {k : Int} (hk : 0 ≤ k ∧ k ≤ 1) (hK : ∀ (z : Int) (σ : vS), zfr [12, 74, 76] σ0 σ → 0 ≤ z ∧ z ≤ 1 → (∀ x : Int, ¬ (402 * k ≤ x ∧ x < 402 * k + 402) → σ 74 x = σ0 74 x) → (∀ j : Int, 0 ≤ j → j < 402 → σ 74 (402 * k + j) = σ0 52 j) → K (some (.inl z)) σ) (hf : zfr [12, 74, 76] σ0 σ) (hA : ∀ x : Int, ¬ (402 * k ≤ x ∧ x < 402 * k + 402) → σ 74 x = σ0 74 x) (hC : ∀ j : Int, 0 ≤ j → j < 402 → σ 74 (402 * k + j) = σ0 52 j) : ∀ (m : Nat) (i : Int), 24 - i < (m : Int) → 0 ≤ i → i ≤ 24 → zG E gJ1 md217 w gm_217 51 [(0, .inr (.inl 12)), (1, .inl k), (2, .inl i)] σ K := by
  intro m
  induction m with
  | zero => intro i h; omega
  | succ m ih =>
    intro i hm h0 h1
    refine zbd (fun hb => zgo B zS_nil [] [(18, [0, 1, 2]), (51, [0, 1, 2])] (fun m => Nat.beq m.2.2.2.2.1 120) (by decide +kernel) ?_)
    refine And.intro (fun (c1 : 24 ≤ i) => ?_) (fun (c2 : i < 24) => ?_)
    · refine And.intro (show 0 ≤ k ∧ k < 2 from by omega) ?_
      refine And.intro (show 0 ≤ 1 ∧ 1 ≤ 1 from by omega) ?_
      refine And.intro (show 0 ≤ 1 ∧ 1 ≤ 1 from by omega) ?_
      refine And.intro (show 0 ≤ 1 ∧ 1 ≤ 1 from by omega) ?_
      show K (some (.inl 1)) (vup σ 76 k 1)
      exact hK _ _ (zfr_up hf (by decide)) (by omega) hA hC
    · refine And.intro (show -2147483648 ≤ (24 * k) ∧ (24 * k) ≤ 2147483647 from by omega) ?_
      refine And.intro (show -2147483648 ≤ ((24 * k) + i) ∧ ((24 * k) + i) ≤ 2147483647 from by omega) ?_
      refine And.intro (show 0 ≤ i ∧ i < 48 from by omega) ?_
      refine And.intro (show 0 ≤ ((24 * k) + i) ∧ ((24 * k) + i) < 48 from by omega) ?_
      refine And.intro (show -2147483648 ≤ (i + 1) ∧ (i + 1) ≤ 2147483647 from by omega) ?_
      show zG E gJ1 md217 w gm_217 51 [(0, .inr (.inl 12)), (1, .inl k), (2, .inl (i + 1))] σ K
      exact ih (i + 1) (by omega) (by omega) (by omega)
theorem z_ima1 (B : zB E) {σ0 : vS} {k : Int} (hk : 0 ≤ k ∧ k ≤ 1) (hK : ∀ (z : Int) (σ : vS), zfr [12, 74, 76] σ0 σ → 0 ≤ z ∧ z ≤ 1 → (∀ x : Int, ¬ (402 * k ≤ x ∧ x < 402 * k + 402) → σ 74 x = σ0 74 x) → (∀ j : Int, 0 ≤ j → j < 402 → σ 74 (402 * k + j) = σ0 52 j) → K (some (.inl z)) σ) : ∀ (m : Nat) (i : Int) (σ : vS), 402 - i < (m : Int) → 0 ≤ i → i ≤ 402 → zfr [12, 74, 76] σ0 σ → (∀ x : Int, ¬ (402 * k ≤ x ∧ x < 402 * k + 402) → σ 74 x = σ0 74 x) → (∀ j : Int, 0 ≤ j → j < i → σ 74 (402 * k + j) = σ0 52 j) → zG E gJ1 md217 w gm_217 18 [(0, .inr (.inl 12)), (1, .inl k), (2, .inl i)] σ K := by
  intro m
  induction m with
  | zero => intro i σ h; omega
  | succ m ih =>
    intro i σ hm h0 h1 hf hA hC
    refine zbd (fun hb => zgo B zS_nil [] [(18, [0, 1, 2]), (51, [0, 1, 2])] (fun m => Nat.beq m.2.2.2.2.1 120) (by decide +kernel) ?_)
    refine And.intro (fun (c1 : 402 ≤ i) => ?_) (fun (c2 : i < 402) => ?_)
    · show zG E gJ1 md217 w gm_217 51 [(0, .inr (.inl 12)), (1, .inl k), (2, .inl 0)] σ K
      exact z_ima2 B hk hK hf hA (fun j j0 j1 => hC j j0 (by omega)) 25 0 (by omega) (by omega) (by omega)
    · refine And.intro (show -2147483648 ≤ (402 * k) ∧ (402 * k) ≤ 2147483647 from by omega) ?_
      refine And.intro (show -2147483648 ≤ ((402 * k) + i) ∧ ((402 * k) + i) ≤ 2147483647 from by omega) ?_
      refine And.intro (show 0 ≤ i ∧ i < 402 from by omega) ?_
      refine And.intro (show 0 ≤ ((402 * k) + i) ∧ ((402 * k) + i) < 804 from by omega) ?_
      refine And.intro (show vRg (zrg 74) ((402 * k) + i) (σ 52 i) from z_im B hb hk h0 (by omega)) ?_
      refine And.intro (show -2147483648 ≤ (i + 1) ∧ (i + 1) ≤ 2147483647 from by omega) ?_
      show zG E gJ1 md217 w gm_217 18 [(0, .inr (.inl 12)), (1, .inl k), (2, .inl (i + 1))] (vup σ 74 ((402 * k) + i) (σ 52 i)) K
      refine ih (i + 1) _ (by omega) (by omega) (by omega) (zfr_up hf (by decide)) (fun x hx => ?_) (fun j j0 j1 => ?_)
      · rw [vup_f, ful_ne (by omega)]
        exact hA x hx
      · rw [vup_f]
        by_cases hj : j = i
        · subst hj
          rw [ful_at, hf 52 (by decide)]
        · rw [ful_ne (by omega)]
          exact hC j j0 (by omega)
theorem z_ima0 (B : zB E) {k : Int} (hr : -2147483648 ≤ k ∧ k ≤ 2147483647) (h1 : ∀ (z : Int) (σ2 : vS), zfr [12, 74, 76] σ σ2 → 0 ≤ z ∧ z ≤ 1 → (∀ x : Int, ¬ (402 * k ≤ x ∧ x < 402 * k + 402) → σ2 74 x = σ 74 x) → (∀ j : Int, 0 ≤ j → j < 402 → σ2 74 (402 * k + j) = σ 52 j) → K (some (.inl z)) σ2) (h2 : ∀ σ2 : vS, zfr [12, 74, 76] σ σ2 → σ2 74 = σ 74 → K (some (.inl 0)) σ2) : zG E gJ1 md217 w gm_217 0 [(0, .inr (.inl 12)), (1, .inl k)] σ K := by
  refine zbd (fun hb => zgo B zS_nil [] [(18, [0, 1, 2]), (51, [0, 1, 2])] (fun m => Nat.beq m.2.2.2.2.1 120) (by decide +kernel) ?_)
  refine And.intro (show Int.negSucc 2147483647 ≤ 0 ∧ 0 ≤ 2147483647 from rgm (by omega)) ?_
  refine And.intro (fun (c1 : k < 0) => ?_) (fun (c2 : 0 ≤ k) => ?_)
  · refine And.intro (show 0 ≤ 0 ∧ 0 ≤ 1 from by omega) ?_
    refine And.intro (fun (q : ¬ 0 = 0) => absurd q (by decide)) (fun _ => ?_)
    refine And.intro (show 0 ≤ 0 ∧ 0 ≤ 1 from by omega) ?_
    show K (some (.inl 0)) (vup σ 12 0 0)
    exact h2 _ (zfr_up zfr_refl (by decide)) rfl
  · refine And.intro (fun (c3 : 1 < k) => ?_) (fun (c4 : k ≤ 1) => ?_)
    · refine And.intro (show 0 ≤ 0 ∧ 0 ≤ 1 from by omega) ?_
      refine And.intro (fun (q : ¬ 0 = 0) => absurd q (by decide)) (fun _ => ?_)
      refine And.intro (show 0 ≤ 0 ∧ 0 ≤ 1 from by omega) ?_
      show K (some (.inl 0)) (vup σ 12 0 0)
      exact h2 _ (zfr_up zfr_refl (by decide)) rfl
    · refine And.intro (show 0 ≤ 1 ∧ 1 ≤ 1 from by omega) ?_
      refine And.intro (fun _ => ?_) (fun (q : 1 = 0) => absurd q (by decide))
      show zG E gJ1 md217 w gm_217 18 [(0, .inr (.inl 12)), (1, .inl k), (2, .inl 0)] (vup σ 12 0 0) K
      exact z_ima1 B (by omega) h1 403 0 _ (by omega) (by omega) (by omega) (zfr_up zfr_refl (by decide)) (fun _ _ => rfl) (fun j j0 j1 => by omega)
theorem zc_217 (B : zB E) : zH E gJ1 (gm_217, 3) gc_217_0 := by
  refine z_holds B (by decide) (fun w vs σ hv hX hb => ?_)
  have hv : vFits [.inr (.inl 12), .inl (.negSucc 2147483647, .ofNat 2147483647)] vs := hv
  obtain ⟨k, rfl, h1⟩ := fits2 hv
  have f1 : 0 ≤ σ 52 221 ∧ σ 52 221 ≤ 53 := zb B hb (t := 52) (a := 221) (n := 222) (i := 221) (by decide +kernel) (by omega) (by omega)
  have f2 : 0 ≤ σ 74 221 ∧ σ 74 221 ≤ 53 := zb B hb (t := 74) (a := 221) (n := 222) (i := 221) (by decide +kernel) (by omega) (by omega)
  have f3 : 0 ≤ σ 74 623 ∧ σ 74 623 ≤ 53 := zb B hb (t := 74) (a := 623) (n := 624) (i := 623) (by decide +kernel) (by omega) (by omega)
  obtain ⟨x1, x2, x3⟩ := hX
  refine z_ima0 B h1 (fun z σ2 hf hz hA hC => ⟨?_, _, List.mem_cons_self, hz⟩) (fun σ2 hf h => ⟨vX_fr ⟨x1, x2, x3⟩ (hf 52 (by decide)) h, _, List.mem_cons_self, (show (0 : Int) ≤ 0 ∧ (0 : Int) ≤ 1 from by decide)⟩)
  refine ⟨by rw [hf 52 (by decide)]; exact x1, ?_, ?_⟩
  · by_cases h0 : k = 0
    · subst h0
      refine xVPz_cp (g := σ 52) (a := 221) (fun j j0 j1 => ?_) (by omega) x1
      have := hC (221 + j) (by omega) (by omega)
      rw [← this]
      congr 1
      omega
    · exact xVPz_cp (g := σ 74) (a := 221) (fun j j0 j1 => hA _ (by omega)) (by omega) x2
  · by_cases h0 : k = 1
    · subst h0
      refine xVPz_cp (g := σ 52) (a := 221) (fun j j0 j1 => ?_) (by omega) x1
      have := hC (221 + j) (by omega) (by omega)
      rw [← this]
      congr 1
      omega
    · exact xVPz_cp (g := σ 74) (a := 623) (fun j j0 j1 => hA _ (by omega)) (by omega) x3
theorem z_res2 (B : zB E) {σ0 : vS} {k : Int} (hk : 0 ≤ k ∧ k ≤ 1) (hK : ∀ (z : Int) (σ : vS), zfr [12, 52] σ0 σ → 0 ≤ z ∧ z ≤ 1 → (∀ j : Int, 0 ≤ j → j < 402 → σ 52 j = σ0 74 (402 * k + j)) → K (some (.inl z)) σ) (hf : zfr [12, 52] σ0 σ) (hC : ∀ j : Int, 0 ≤ j → j < 402 → σ 52 j = σ0 74 (402 * k + j)) : ∀ (m : Nat) (i : Int), 24 - i < (m : Int) → 0 ≤ i → i ≤ 24 → zG E gJ1 md261 w gm_261 60 [(0, .inr (.inl 12)), (1, .inl k), (2, .inl i)] σ K := by
  intro m
  induction m with
  | zero => intro i h; omega
  | succ m ih =>
    intro i hm h0 h1
    refine zbd (fun hb => zgo B zS_nil [] [(27, [0, 1, 2]), (60, [0, 1, 2])] (fun m => Nat.beq m.2.2.2.2.1 120) (by decide +kernel) ?_)
    refine And.intro (fun (c1 : 24 ≤ i) => ?_) (fun (c2 : i < 24) => ?_)
    · refine And.intro (show 0 ≤ 0 ∧ 0 ≤ 8 from by omega) ?_
      refine And.intro (show 0 ≤ 1 ∧ 1 ≤ 1 from by omega) ?_
      show K (some (.inl 1)) (vup σ 12 22 0)
      exact hK _ _ (zfr_up hf (by decide)) (by omega) hC
    · refine And.intro (show -2147483648 ≤ (24 * k) ∧ (24 * k) ≤ 2147483647 from by omega) ?_
      refine And.intro (show -2147483648 ≤ ((24 * k) + i) ∧ ((24 * k) + i) ≤ 2147483647 from by omega) ?_
      refine And.intro (show 0 ≤ ((24 * k) + i) ∧ ((24 * k) + i) < 48 from by omega) ?_
      refine And.intro (show 0 ≤ i ∧ i < 48 from by omega) ?_
      refine And.intro (show -2147483648 ≤ (i + 1) ∧ (i + 1) ≤ 2147483647 from by omega) ?_
      show zG E gJ1 md261 w gm_261 60 [(0, .inr (.inl 12)), (1, .inl k), (2, .inl (i + 1))] σ K
      exact ih (i + 1) (by omega) (by omega) (by omega)
theorem z_res1 (B : zB E) {σ0 : vS} {k : Int} (hk : 0 ≤ k ∧ k ≤ 1) (hK : ∀ (z : Int) (σ : vS), zfr [12, 52] σ0 σ → 0 ≤ z ∧ z ≤ 1 → (∀ j : Int, 0 ≤ j → j < 402 → σ 52 j = σ0 74 (402 * k + j)) → K (some (.inl z)) σ) : ∀ (m : Nat) (i : Int) (σ : vS), 402 - i < (m : Int) → 0 ≤ i → i ≤ 402 → zfr [12, 52] σ0 σ → (∀ j : Int, 0 ≤ j → j < i → σ 52 j = σ0 74 (402 * k + j)) → zG E gJ1 md261 w gm_261 27 [(0, .inr (.inl 12)), (1, .inl k), (2, .inl i)] σ K := by
  intro m
  induction m with
  | zero => intro i σ h; omega
  | succ m ih =>
    intro i σ hm h0 h1 hf hC
    refine zbd (fun hb => zgo B zS_nil [] [(27, [0, 1, 2]), (60, [0, 1, 2])] (fun m => Nat.beq m.2.2.2.2.1 120) (by decide +kernel) ?_)
    refine And.intro (fun (c1 : 402 ≤ i) => ?_) (fun (c2 : i < 402) => ?_)
    · show zG E gJ1 md261 w gm_261 60 [(0, .inr (.inl 12)), (1, .inl k), (2, .inl 0)] σ K
      exact z_res2 B hk hK hf (fun j j0 j1 => hC j j0 (by omega)) 25 0 (by omega) (by omega) (by omega)
    · refine And.intro (show -2147483648 ≤ (402 * k) ∧ (402 * k) ≤ 2147483647 from by omega) ?_
      refine And.intro (show -2147483648 ≤ ((402 * k) + i) ∧ ((402 * k) + i) ≤ 2147483647 from by omega) ?_
      refine And.intro (show 0 ≤ ((402 * k) + i) ∧ ((402 * k) + i) < 804 from by omega) ?_
      refine And.intro (show 0 ≤ i ∧ i < 402 from by omega) ?_
      refine And.intro (show vRg (zrg 52) i (σ 74 ((402 * k) + i)) from z_re B hb hk h0 (by omega)) ?_
      refine And.intro (show -2147483648 ≤ (i + 1) ∧ (i + 1) ≤ 2147483647 from by omega) ?_
      show zG E gJ1 md261 w gm_261 27 [(0, .inr (.inl 12)), (1, .inl k), (2, .inl (i + 1))] (vup σ 52 i (σ 74 ((402 * k) + i))) K
      refine ih (i + 1) _ (by omega) (by omega) (by omega) (zfr_up hf (by decide)) (fun j j0 j1 => ?_)
      rw [vup_f]
      by_cases hj : j = i
      · subst hj
        rw [ful_at, hf 74 (by decide)]
      · rw [ful_ne hj]
        exact hC j j0 (by omega)
theorem z_res0 (B : zB E) {k : Int} (hr : -2147483648 ≤ k ∧ k ≤ 2147483647) (h1 : (0 ≤ k ∧ k ≤ 1) → ∀ (z : Int) (σ2 : vS), zfr [12, 52] σ σ2 → 0 ≤ z ∧ z ≤ 1 → (∀ j : Int, 0 ≤ j → j < 402 → σ2 52 j = σ 74 (402 * k + j)) → K (some (.inl z)) σ2) (h2 : ∀ σ2 : vS, zfr [12, 52] σ σ2 → σ2 52 = σ 52 → K (some (.inl 0)) σ2) : zG E gJ1 md261 w gm_261 0 [(0, .inr (.inl 12)), (1, .inl k)] σ K := by
  refine zbd (fun hb => zgo B zS_nil [] [(27, [0, 1, 2]), (60, [0, 1, 2])] (fun m => Nat.beq m.2.2.2.2.1 120) (by decide +kernel) ?_)
  refine And.intro (show Int.negSucc 2147483647 ≤ 0 ∧ 0 ≤ 2147483647 from rgm (by omega)) ?_
  refine And.intro (fun (c1 : k < 0) => ?_) (fun (c2 : 0 ≤ k) => ?_)
  · refine And.intro (show 0 ≤ 0 ∧ 0 ≤ 1 from by omega) ?_
    refine And.intro (fun _ => ?_) (fun (q : ¬ 0 = 0) => absurd q (by decide))
    refine And.intro (show 0 ≤ 0 ∧ 0 ≤ 1 from by omega) ?_
    show K (some (.inl 0)) (vup σ 12 0 0)
    exact h2 _ (zfr_up zfr_refl (by decide)) rfl
  · refine And.intro (fun (c3 : 1 < k) => ?_) (fun (c4 : k ≤ 1) => ?_)
    · refine And.intro (show 0 ≤ 0 ∧ 0 ≤ 1 from by omega) ?_
      refine And.intro (fun _ => ?_) (fun (q : ¬ 0 = 0) => absurd q (by decide))
      refine And.intro (show 0 ≤ 0 ∧ 0 ≤ 1 from by omega) ?_
      show K (some (.inl 0)) (vup σ 12 0 0)
      exact h2 _ (zfr_up zfr_refl (by decide)) rfl
    · refine And.intro (show 0 ≤ 1 ∧ 1 ≤ 1 from by omega) ?_
      refine And.intro (fun (q : 1 = 0) => absurd q (by decide)) (fun _ => ?_)
      refine And.intro (show 0 ≤ k ∧ k < 2 from by omega) ?_
      have f5 : 0 ≤ σ 76 k ∧ σ 76 k ≤ 1 := zb B hb (t := 76) (a := 0) (n := 2) (i := k) (by decide +kernel) (by omega) (by omega)
      refine And.intro (fun (c6 : ¬ (σ 76 k) = 0) => ?_) (fun (c7 : (σ 76 k) = 0) => ?_)
      · show zG E gJ1 md261 w gm_261 27 [(0, .inr (.inl 12)), (1, .inl k), (2, .inl 0)] (vup σ 12 0 0) K
        exact z_res1 B (by omega) (h1 (by omega)) 403 0 _ (by omega) (by omega) (by omega) (zfr_up zfr_refl (by decide)) (fun j j0 j1 => by omega)
      · refine And.intro (show 0 ≤ 0 ∧ 0 ≤ 1 from by omega) ?_
        show K (some (.inl 0)) (vup σ 12 0 0)
        exact h2 _ (zfr_up zfr_refl (by decide)) rfl
theorem zc_261 (B : zB E) : zH E gJ1 (gm_261, 3) gc_261_0 := by
  refine z_holds B (by decide) (fun w vs σ hv hX hb => ?_)
  have hv : vFits [.inr (.inl 12), .inl (.negSucc 2147483647, .ofNat 2147483647)] vs := hv
  obtain ⟨k, rfl, h1⟩ := fits2 hv
  have f2 : 0 ≤ σ 74 221 ∧ σ 74 221 ≤ 53 := zb B hb (t := 74) (a := 221) (n := 222) (i := 221) (by decide +kernel) (by omega) (by omega)
  have f3 : 0 ≤ σ 74 623 ∧ σ 74 623 ≤ 53 := zb B hb (t := 74) (a := 623) (n := 624) (i := 623) (by decide +kernel) (by omega) (by omega)
  obtain ⟨x1, x2, x3⟩ := hX
  refine z_res0 B h1 (fun hk z σ2 hf hz hC => ⟨⟨?_, by rw [hf 74 (by decide)]; exact x2, by rw [hf 74 (by decide)]; exact x3⟩, _, List.mem_cons_self, hz⟩) (fun σ2 hf h => ⟨vX_fr ⟨x1, x2, x3⟩ h (hf 74 (by decide)), _, List.mem_cons_self, (show (0 : Int) ≤ 0 ∧ (0 : Int) ≤ 1 from by decide)⟩)
  rcases (show k = 0 ∨ k = 1 by omega) with rfl | rfl
  · refine xVPz_cp (g := σ 74) (a := 221) (fun j j0 j1 => ?_) (by omega) x2
    rw [hC (221 + j) (by omega) (by omega)]
    congr 1
    omega
  · refine xVPz_cp (g := σ 74) (a := 623) (fun j j0 j1 => ?_) (by omega) x3
    rw [hC (221 + j) (by omega) (by omega)]
    congr 1
    omega
end Z6
