/-! EXACT WALKS: contracts shown; wayOf -/
section Z3
variable {E : zE} {J : List aJ} {md : aMd} {w : va_W} {σ : vS} {K : vK}
theorem fits_cons {f : aF} {fs : List aF} {vs : List vV} (h : vFits (f :: fs) vs) : ∃ v t, vs = v :: t ∧ vFit f v ∧ vFits fs t := by
  cases vs with
  | nil => exact absurd h id
  | cons v t => exact ⟨v, t, rfl, h.1, h.2⟩
theorem fits_nil {vs : List vV} (h : vFits [] vs) : vs = [] := by
  cases vs with
  | nil => rfl
  | cons v t => exact absurd h id
theorem fit_i {a b : Int} {v : vV} (h : vFit (.inl (a, b)) v) : ∃ x : Int, v = .inl x ∧ a ≤ x ∧ x ≤ b := by
  rcases v with x | r | m
  · exact ⟨x, rfl, h⟩
  · exact absurd h id
  · exact absurd h id
theorem fit_r {t : Nat} {v : vV} (h : vFit (.inr (.inl t)) v) : v = .inr (.inl t) := by
  rcases v with x | r | m
  · exact absurd h id
  · have h : r = t := h
    rw [h]
  · exact absurd h id
theorem fits1 {t : Nat} {vs : List vV} (h : vFits [.inr (.inl t)] vs) : vs = [.inr (.inl t)] := by
  obtain ⟨v0, t0, rfl, h0, h⟩ := fits_cons h
  rw [fit_r h0, fits_nil h]
theorem fits2 {t : Nat} {a b : Int} {vs : List vV} (h : vFits [.inr (.inl t), .inl (a, b)] vs) : ∃ x : Int, vs = [.inr (.inl t), .inl x] ∧ a ≤ x ∧ x ≤ b := by
  obtain ⟨v0, t0, rfl, h0, g⟩ := fits_cons h
  obtain ⟨v1, t1, rfl, h1, k⟩ := fits_cons g
  obtain ⟨x, rfl, h2⟩ := fit_i h1
  rw [fit_r h0, fits_nil k]
  exact ⟨x, rfl, h2⟩
theorem fits3 {t : Nat} {a b c d : Int} {vs : List vV} (h : vFits [.inr (.inl t), .inl (a, b), .inl (c, d)] vs) : ∃ x y : Int, vs = [.inr (.inl t), .inl x, .inl y] ∧ (a ≤ x ∧ x ≤ b) ∧ c ≤ y ∧ y ≤ d := by
  obtain ⟨v0, t0, rfl, h0, g⟩ := fits_cons h
  obtain ⟨v1, t1, rfl, h1, k⟩ := fits_cons g
  obtain ⟨v2, t2, rfl, h2, l⟩ := fits_cons k
  obtain ⟨x, rfl, i1⟩ := fit_i h1
  obtain ⟨y, rfl, i2⟩ := fit_i h2
  rw [fit_r h0, fits_nil l]
  exact ⟨x, y, rfl, i1, i2⟩
theorem z_vXh : vXh gST := ⟨⟨_, _, _, rfl, rfl, by decide⟩, _, _, _, _, rfl, rfl, by decide, rfl, by decide⟩
theorem vX_fr {σ2 : vS} (h : vX σ) (h1 : σ2 52 = σ 52) (h2 : σ2 74 = σ 74) : vX σ2 := by
  unfold vX
  rw [h1, h2]
  exact h
/-- a contract, shown -/
theorem z_holds (B : zB E) {q : eM × Nat} {c : aCon} (h0 : ∀ al ∈ c.2.2.1, al.2 = []) (hc : ∀ (w : va_W) (vs : List vV) (σ : vS), vFits c.1 vs → vX σ → vBd (zso E) gST zuq σ → zG E J c.2.2.2 w q.1 0 (vargs vs 0) σ (fun ret σ2 => vX σ2 ∧ ∃ al ∈ c.2.2.1, vFr al.1 ret)) : zH E J q c :=
  v_holds z_vXh ⟨rfl, rfl⟩ ⟨B.2.2.2.2.2.2.2 52 rfl, B.2.2.2.2.2.2.2 74 rfl⟩ B.2.2.2.2.2.2.1 h0 hc
theorem z_way2 (B : zB E) {σ0 : vS} {q to n : Int} (hq : 0 ≤ q ∧ q ≤ 5) (n0 : 0 ≤ n ∧ n ≤ 12) {many : Int} (hm : 0 ≤ many ∧ many ≤ 11) {r i o : Int} (i0 : 0 ≤ i) (i1 : i < many) (o1 : o < n) (hN : ∀ (r : Int) (σ : vS), σ 52 2 = n → zfr [59, 60] σ0 σ → zFar (σ 52) (σ 59) q → 0 ≤ r → r < 12 → σ 59 r = many - (i + 1) → zG E gJ1 md287 w gm_287 100 [(0, .inr (.inl 12)), (1, .inl q), (2, .inl to), (3, .inl r), (4, .inl many), (5, .inl (i + 1))] σ K) : ∀ (m : Nat) (y : Int) (σ : vS), o - y < (m : Int) → 0 ≤ y → σ 52 2 = n → zfr [59, 60] σ0 σ → zFar (σ 52) (σ 59) q → (zadj (σ 52) q r o ∧ σ 59 o = many - i - 1) → y ≤ o → zG E gJ1 md287 w gm_287 117 [(0, .inr (.inl 12)), (1, .inl q), (2, .inl to), (3, .inl r), (4, .inl many), (5, .inl i), (6, .inl (zbF (σ 52) r)), (7, .inl y)] σ K := by
  intro m
  induction m with
  | zero => intro y σ h; omega
  | succ m ih =>
    intro y σ hmm h0 hn hf hF hO h1
    refine zbd (fun hb => zgo B (zS_cons (z_273 B) (zS_cons (z_181 B) (zS_cons (z_190 B) (zS_cons (z_182 B) zS_nil)))) [] [(100, [0, 1, 2, 3, 4, 5]), (117, [0, 1, 2, 3, 4, 5, 6, 7])] (fun m => Nat.beq m.2.2.2.2.1 191) (by decide +kernel) ?_)
    refine And.intro (show 0 ≤ y ∧ y ≤ 31 from by omega) (fun (z1 : Int) (h2 : (z1 = 1 ∧ tb (zbF (σ 52) r) y = true) ∨ (z1 = 0 ∧ tb (zbF (σ 52) r) y = false)) => ?_)
    rcases h2 with ⟨rfl, t3⟩ | ⟨rfl, t3⟩
    · refine And.intro (fun (q : 1 = 0) => absurd q (by decide)) (fun _ => ?_)
      refine And.intro (show (0 ≤ q ∧ q ≤ 5) ∧ (0 ≤ y ∧ y ≤ 11) from by omega) (fun (z4 : Int) (h5 : (z4 = 1 ∧ zen (σ 52) q y) ∨ (z4 = 0 ∧ ¬ zen (σ 52) q y)) => ?_)
      rcases h5 with ⟨rfl, t6⟩ | ⟨rfl, t6⟩
      · refine And.intro (fun (q : 1 = 0) => absurd q (by decide)) (fun _ => ?_)
        refine And.intro (show 0 ≤ y ∧ y < 12 from by omega) ?_
        have f7 : 0 ≤ σ 59 y ∧ σ 59 y ≤ 100 := zb B hb (t := 59) (a := 0) (n := 12) (i := y) (by decide +kernel) (by omega) (by omega)
        refine And.intro (show -2147483648 ≤ (many - 1) ∧ (many - 1) ≤ 2147483647 from by omega) ?_
        refine And.intro (show -2147483648 ≤ ((many - 1) - i) ∧ ((many - 1) - i) ≤ 2147483647 from by omega) ?_
        refine And.intro (fun (c8 : (σ 59 y) = ((many - 1) - i)) => ?_) (fun (c9 : ¬ (σ 59 y) = ((many - 1) - i)) => ?_)
        · refine And.intro (show 0 ≤ i ∧ i < 12 from by omega) ?_
          refine And.intro (show 0 ≤ y ∧ y ≤ 11 from by omega) ?_
          refine And.intro (show -2147483648 ≤ (i + 1) ∧ (i + 1) ≤ 2147483647 from by omega) ?_
          show zG E gJ1 md287 w gm_287 100 [(0, .inr (.inl 12)), (1, .inl q), (2, .inl to), (3, .inl y), (4, .inl many), (5, .inl (i + 1))] (vup σ 60 i y) K
          exact hN y _ (show σ 52 2 = n from hn) (zfr_up hf (by decide)) hF (by omega) (by omega) (show σ 59 y = _ from by omega)
        · refine And.intro (show -2147483648 ≤ (y + 1) ∧ (y + 1) ≤ 2147483647 from by omega) ?_
          show zG E gJ1 md287 w gm_287 117 [(0, .inr (.inl 12)), (1, .inl q), (2, .inl to), (3, .inl r), (4, .inl many), (5, .inl i), (6, .inl (zbF (σ 52) r)), (7, .inl (y + 1))] σ K
          refine ih (y + 1) σ (by omega) (by omega) hn hf hF hO ?_
          have : ¬ y = o := by
            rintro rfl
            obtain ⟨⟨p1, p2⟩, p3⟩ := hO
            first
            | omega
            | exact absurd p2 (by assumption)
            | (simp_all; done)
          omega
      · refine And.intro (fun _ => ?_) (fun (q : ¬ 0 = 0) => absurd q (by decide))
        refine And.intro (show -2147483648 ≤ (y + 1) ∧ (y + 1) ≤ 2147483647 from by omega) ?_
        show zG E gJ1 md287 w gm_287 117 [(0, .inr (.inl 12)), (1, .inl q), (2, .inl to), (3, .inl r), (4, .inl many), (5, .inl i), (6, .inl (zbF (σ 52) r)), (7, .inl (y + 1))] σ K
        refine ih (y + 1) σ (by omega) (by omega) hn hf hF hO ?_
        have : ¬ y = o := by
          rintro rfl
          obtain ⟨⟨p1, p2⟩, p3⟩ := hO
          first
          | omega
          | exact absurd p2 (by assumption)
          | (simp_all; done)
        omega
    · refine And.intro (fun _ => ?_) (fun (q : ¬ 0 = 0) => absurd q (by decide))
      refine And.intro (show -2147483648 ≤ (y + 1) ∧ (y + 1) ≤ 2147483647 from by omega) ?_
      show zG E gJ1 md287 w gm_287 117 [(0, .inr (.inl 12)), (1, .inl q), (2, .inl to), (3, .inl r), (4, .inl many), (5, .inl i), (6, .inl (zbF (σ 52) r)), (7, .inl (y + 1))] σ K
      refine ih (y + 1) σ (by omega) (by omega) hn hf hF hO ?_
      have : ¬ y = o := by
        rintro rfl
        obtain ⟨⟨p1, p2⟩, p3⟩ := hO
        first
        | omega
        | exact absurd p2 (by assumption)
        | (simp_all; done)
      omega
theorem z_way1 (B : zB E) {σ0 : vS} {q to n : Int} (hq : 0 ≤ q ∧ q ≤ 5) (n0 : 0 ≤ n ∧ n ≤ 12) {many : Int} (hm : 0 ≤ many ∧ many ≤ 11) (hK : ∀ (z : Int) (σ : vS), zfr [59, 60] σ0 σ → -1 ≤ z ∧ z ≤ 11 → K (some (.inl z)) σ) : ∀ (m : Nat) (i r : Int) (σ : vS), many - i < (m : Int) → 0 ≤ i → i ≤ many → σ 52 2 = n → zfr [59, 60] σ0 σ → zFar (σ 52) (σ 59) q → 0 ≤ r → r < 12 → σ 59 r = many - i → zG E gJ1 md287 w gm_287 100 [(0, .inr (.inl 12)), (1, .inl q), (2, .inl to), (3, .inl r), (4, .inl many), (5, .inl i)] σ K := by
  intro m
  induction m with
  | zero => intro i r σ h; omega
  | succ m ih =>
    intro i r σ hmm i0 i1 hn hf hF h0 h1 hr
    refine zbd (fun hb => zgo B (zS_cons (z_273 B) (zS_cons (z_181 B) (zS_cons (z_190 B) (zS_cons (z_182 B) zS_nil)))) [] [(100, [0, 1, 2, 3, 4, 5]), (117, [0, 1, 2, 3, 4, 5, 6, 7])] (fun m => Nat.beq m.2.2.2.2.1 191) (by decide +kernel) ?_)
    refine And.intro (fun (c1 : many ≤ i) => ?_) (fun (c2 : i < many) => ?_)
    · show K (some (.inl many)) σ
      exact hK _ σ hf (by omega)
    · show zG E gJ1 md287 w gm_287 117 [(0, .inr (.inl 12)), (1, .inl q), (2, .inl to), (3, .inl r), (4, .inl many), (5, .inl i), (6, .inl (zbF (σ 52) r)), (7, .inl 0)] σ K
      obtain ⟨p1, p2, p3⟩ := hF r h0 h1 (by omega)
      obtain ⟨o, o0, o1, o2, o3⟩ := p3 (by omega)
      exact z_way2 B hq n0 hm i0 (by omega) (by omega) (fun r2 σ2 a1 a2 a3 a4 a5 a6 => ih (i + 1) r2 σ2 (by omega) (by omega) (by omega) a1 a2 a3 a4 a5 a6) 12 0 σ (by omega) (by omega) hn hf hF ⟨o2, by omega⟩ o0
theorem z_way0 (B : zB E) {σ0 : vS} {q to : Int} (hq : 0 ≤ q ∧ q ≤ 5) (ht : 0 ≤ to ∧ to ≤ 11) (hK : ∀ (z : Int) (σ : vS), zfr [59, 60] σ0 σ → -1 ≤ z ∧ z ≤ 11 → K (some (.inl z)) σ) (hf : zfr [59, 60] σ0 σ) : zG E gJ1 md287 w gm_287 0 [(0, .inr (.inl 12)), (1, .inl q), (2, .inl to)] σ K := by
  refine zbd (fun hb => zgo B (zS_cons (z_273 B) (zS_cons (z_181 B) (zS_cons (z_190 B) (zS_cons (z_182 B) zS_nil)))) [] [(100, [0, 1, 2, 3, 4, 5]), (117, [0, 1, 2, 3, 4, 5, 6, 7])] (fun m => Nat.beq m.2.2.2.2.1 191) (by decide +kernel) ?_)
  have fr := zb B hb (t := 52) (a := 2) (n := 3) (i := 2) (lo := 0) (hi := 12) (by decide +kernel) (by omega) (by omega)
  refine And.intro (show 0 ≤ 180 ∧ 180 < 402 from by omega) ?_
  have f1 : (-2147483648) ≤ σ 52 180 ∧ σ 52 180 ≤ 2147483647 := zb B hb (t := 52) (a := 179) (n := 185) (i := 180) (by decide +kernel) (by omega) (by omega)
  refine And.intro (show 0 ≤ q ∧ q ≤ 31 from by omega) (fun (z2 : Int) (h3 : (z2 = 1 ∧ tb (σ 52 180) q = true) ∨ (z2 = 0 ∧ tb (σ 52 180) q = false)) => ?_)
  rcases h3 with ⟨rfl, t4⟩ | ⟨rfl, t4⟩
  · refine And.intro (show 0 ≤ 1 ∧ 1 ≤ 1 from by omega) ?_
    refine And.intro (fun (q : 1 = 0) => absurd q (by decide)) (fun _ => ?_)
    show K (some (.inl (-1))) σ
    exact hK _ _ hf (by omega)
  · refine And.intro (show 0 ≤ 0 ∧ 0 ≤ 1 from by omega) ?_
    refine And.intro (fun _ => ?_) (fun (q : ¬ 0 = 0) => absurd q (by decide))
    refine And.intro (show -2147483648 ≤ (197 + q) ∧ (197 + q) ≤ 2147483647 from by omega) ?_
    refine And.intro (show 0 ≤ (197 + q) ∧ (197 + q) < 402 from by omega) ?_
    have f5 : 0 ≤ σ 52 (197 + q) ∧ σ 52 (197 + q) ≤ 12 := zb B hb (t := 52) (a := 197) (n := 203) (i := 197 + q) (by decide +kernel) (by omega) (by omega)
    refine And.intro (show -2147483648 ≤ (to + 1) ∧ (to + 1) ≤ 2147483647 from by omega) ?_
    refine And.intro (fun (c6 : ¬ (σ 52 (197 + q)) = (to + 1)) => ?_) (fun (c7 : (σ 52 (197 + q)) = (to + 1)) => ?_)
    · refine And.intro (show (0 ≤ q ∧ q ≤ 5) ∧ (0 ≤ to ∧ to ≤ 11) from by omega) (fun (z8 : Int) (h9 : (z8 = 1 ∧ zen (σ 52) q to) ∨ (z8 = 0 ∧ ¬ zen (σ 52) q to)) => ?_)
      rcases h9 with ⟨rfl, t10⟩ | ⟨rfl, t10⟩
      · refine And.intro (fun _ => ?_) (fun (q : 1 = 0) => absurd q (by decide))
        refine And.intro (show 0 ≤ 0 ∧ 0 < 12 from by omega) ?_
        refine And.intro (show 0 ≤ to ∧ to ≤ 11 from by omega) ?_
        refine And.intro (show -2147483648 ≤ (197 + q) ∧ (197 + q) ≤ 2147483647 from by omega) ?_
        refine And.intro (show 0 ≤ (197 + q) ∧ (197 + q) < 402 from by omega) ?_
        refine And.intro (fun (c11 : ¬ (σ 52 (197 + q)) = 0) => ?_) (fun (c12 : (σ 52 (197 + q)) = 0) => ?_)
        · refine And.intro (show (0 ≤ q ∧ q ≤ 5) ∧ (0 ≤ to ∧ to ≤ 11) from by omega) (fun (σ13 : vS) (a14 : zfr [59] (vup σ 60 0 to) σ13) (a15 : zFar (σ13 52) (σ13 59) q) => ?_)
          have es : σ13 52 = σ 52 := a14 52 (by decide)
          have ef : zfr [59, 60] σ0 σ13 := fun t ht => by rw [a14 t (fun q => ht (by simp at q; subst q; decide)), vup_fr (fun q => ht (by subst q; decide))]; exact hf t ht
          have hb2 : σ 52 (197 + q) = σ13 52 (197 + q) := by rw [es]
          refine And.intro (show -2147483648 ≤ (197 + q) ∧ (197 + q) ≤ 2147483647 from by omega) ?_
          refine And.intro (show 0 ≤ (197 + q) ∧ (197 + q) < 402 from by omega) ?_
          refine And.intro (show -2147483648 ≤ ((σ13 52 (197 + q)) - 1) ∧ ((σ13 52 (197 + q)) - 1) ≤ 2147483647 from by omega) ?_
          refine And.intro (show 0 ≤ ((σ13 52 (197 + q)) - 1) ∧ ((σ13 52 (197 + q)) - 1) < 12 from by omega) ?_
          refine And.intro (fun (c16 : (σ13 59 ((σ13 52 (197 + q)) - 1)) < 100) => ?_) (fun (c17 : 100 ≤ (σ13 59 ((σ13 52 (197 + q)) - 1))) => ?_)
          · show zG E gJ1 md287 w gm_287 100 [(0, .inr (.inl 12)), (1, .inl q), (2, .inl to), (3, .inl ((σ13 52 (197 + q)) - 1)), (4, .inl (σ13 59 ((σ13 52 (197 + q)) - 1))), (5, .inl 0)] σ13 K
            obtain ⟨p1, p2, p3⟩ := a15 ((σ13 52 (197 + q)) - 1) (by omega) (by omega) (by omega)
            exact z_way1 (n := σ 52 2) B hq fr ⟨p1, p2⟩ hK 12 0 _ σ13 (by omega) (by omega) (by omega) (by rw [es]) ef a15 (by omega) (by omega) (by omega)
          · show K (some (.inl (-1))) σ13
            exact hK _ _ ef (by omega)
        · show K (some (.inl 1)) (vup σ 60 0 to)
          exact hK _ _ (zfr_up hf (by decide)) (by omega)
      · refine And.intro (fun (q : ¬ 0 = 0) => absurd q (by decide)) (fun _ => ?_)
        show K (some (.inl (-1))) σ
        exact hK _ _ hf (by omega)
    · show K (some (.inl 0)) σ
      exact hK _ _ hf (by omega)
theorem zc_287 (B : zB E) : zH E gJ1 (gm_287, 8) gc_287_0 := by
  refine z_holds B (by decide) (fun w vs σ hv hX hb => ?_)
  obtain ⟨q, to, rfl, h1, h2⟩ := fits3 (a := 0) (b := 5) (c := 0) (d := 11) (t := 12) hv
  exact z_way0 B h1 h2 (fun z σ2 hf hz => ⟨vX_fr hX (hf 52 (by decide)) (hf 74 (by decide)), _, List.mem_cons_self, hz⟩) zfr_refl
theorem zc_183 (B : zB E) : zH E J (gm_183, 3) gc_183_0 := by
  refine z_holds B (by decide) (fun w vs σ hv hX hb => ?_)
  have hv : vFits [.inl (.negSucc 2147483647, .ofNat 2147483647)] vs := hv
  obtain ⟨v0, t0, rfl, h0, g⟩ := fits_cons hv
  obtain ⟨x, rfl, h1⟩ := fit_i h0
  have e := fits_nil g
  subst e
  exact z_183 B (gm_183, 3) rfl [.inl x] σ _ ⟨h1, fun z hz => ⟨hX, _, List.mem_cons_self, hz⟩⟩
theorem zc_216 (B : zB E) : zH E J (gm_216, 4) gc_216_0 := by
  refine z_holds B (by decide) (fun w vs σ hv hX hb => ?_)
  obtain ⟨q, rfl, h1⟩ := fits2 (a := 0) (b := 5) (t := 12) hv
  exact z_216 B (gm_216, 4) rfl [.inr (.inl 12), .inl q] σ _ ⟨h1, fun z hz => ⟨hX, _, List.mem_cons_self, hz⟩⟩
end Z3
