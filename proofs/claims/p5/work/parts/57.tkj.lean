/-! THE REFERENCE READS: skip, exactly. -/
noncomputable section
/-- the text as octets -/
def rtx (σ : vS) : Int → Int := fun q => vand (σ 51 q) 255
/-- what skip leaves as it is -/
def rfr (σ0 σ : vS) : Prop := (∀ t, ¬ t = 12 → σ t = σ0 t) ∧ ∀ i : Int, ¬ i = 4 → ¬ i = 11 → ¬ i = 12 → ¬ i = 13 → ¬ i = 14 → ¬ i = 17 → σ 12 i = σ0 12 i
def tsg (c : Int) : Prop := c = 59 ∨ c = 40 ∨ c = 41 ∨ (60 ≤ c ∧ c ≤ 62)
/-- a token that is a run of k places from b on: token, number, word -/
def trn (τ : Int → Int) (b : Int) (k : Nat) (tok num wd : Int) : Prop := (tls τ b k ∧ k ≤ 7 ∧ tok = 1 ∧ wd = tw τ b k) ∨ (tds τ b k ∧ k ≤ 2 ∧ tok = 2 ∧ num = tn τ b k) ∨ (¬ (tls τ b k ∧ k ≤ 7) ∧ ¬ (tds τ b k ∧ k ≤ 2) ∧ tok = 4)
/-- what skip makes, from the end of the blanks on -/
def rtk (τ : Int → Int) (n lim b : Int) (σ : vS) : Prop :=
  (lim < n ∧ lim ≤ b ∧ σ 12 12 = lim ∧ σ 12 11 = 4)
  ∨ (¬ (lim < n ∧ lim ≤ b) ∧ n ≤ b ∧ σ 12 12 = b ∧ σ 12 11 = 0 ∧ σ 12 4 = b)
  ∨ (¬ (lim < n ∧ lim ≤ b) ∧ b < n ∧ tal (τ b) = false ∧ σ 12 12 = b ∧ σ 12 4 = b + 1 ∧ σ 12 14 = τ b ∧ ((tsg (τ b) ∧ σ 12 11 = 3) ∨ (¬ tsg (τ b) ∧ σ 12 11 = 4)))
  ∨ (¬ (lim < n ∧ lim ≤ b) ∧ b < n ∧ tal (τ b) = true ∧ σ 12 12 = b ∧ ∃ k : Nat, 0 < k ∧ σ 12 4 = b + (k : Int) ∧ b + (k : Int) = tE (fun q => tal (τ q)) n b ∧ trn τ b k (σ 12 11) (σ 12 14) (σ 12 17))
/-- inside a run: k places are read -/
def rrn (σ0 : vS) (b sm : Int) (k : Nat) (al : Int) (σ : vS) : Prop := rfr σ0 σ ∧ σ 12 12 = b ∧ σ 12 4 = b + (k : Int) ∧ σ 12 13 = (k : Int) ∧ (k ≤ 7 → σ 12 17 = tw (rtx σ0) b k) ∧ (k ≤ 2 → σ 12 14 = tn (rtx σ0) b k) ∧ (al = 0 ∨ al = 1) ∧ ((sm = 1 ∧ (al = 1 ↔ tls (rtx σ0) b k)) ∨ (sm = 0 ∧ (al = 1 ↔ tds (rtx σ0) b k))) ∧ tE (fun q => tal (rtx σ0 q)) (σ0 12 3) (b + (k : Int)) = tE (fun q => tal (rtx σ0 q)) (σ0 12 3) b
/-- what the reference's terrace may write -/
def mdT : aMd := gc_278_0.2.2.2 ++ [(12, 42, 43), (12, 44, 45), (12, 46, 51), (54, 0, 160), (72, 0, 45)]
def rS : List (Nat × vSpL) := [(252, rs252), (229, rs229), (220, rs220)]
end
section ZR2
variable {KX : Nat → Nat → Option Int} {E : zE} {J : List aJ} {md : aMd} {w : va_W} {σ : vS} {K : vKL}
theorem rS_ok (X : zX KX E) (B : zB E) : zSL E J md w rS := zS_consL (rk_252 X B) (zS_consL (rk_229 X B) (zS_consL (rk_220 X B) zS_nilL))
theorem rfr_up {σ0 σ : vS} {i x : Int} (h : rfr σ0 σ) (hi : i = 4 ∨ i = 11 ∨ i = 12 ∨ i = 13 ∨ i = 14 ∨ i = 17) : rfr σ0 (vup σ 12 i x) := ⟨fun t ht => by rw [vup_fr ht]; exact h.1 t ht, fun j h1 h2 h3 h4 h5 h6 => by rw [vup_ne 12 j (fun q => by have := q.2; omega)]; exact h.2 j h1 h2 h3 h4 h5 h6⟩
theorem rfr_refl {σ0 : vS} : rfr σ0 σ0 := ⟨fun _ _ => rfl, fun _ _ _ _ _ _ _ => rfl⟩
theorem rpk_of {σ0 : vS} (h : rfr σ0 σ) : rpk σ = if σ 12 4 < σ0 12 3 then rtx σ0 (σ 12 4) else -1 := by
  unfold rpk rtx
  rw [h.2 3 (by decide) (by decide) (by decide) (by decide) (by decide) (by decide), h.1 51 (by decide)]
theorem rsm_iff {c : Int} : (rsm c = 0 ↔ ¬ (97 ≤ c ∧ c ≤ 122)) ∧ (rsm c = 1 ↔ (97 ≤ c ∧ c ≤ 122)) := by
  unfold rsm
  by_cases h : 97 ≤ c ∧ c ≤ 122
  · rw [if_pos h]; exact ⟨⟨fun q => absurd q (by decide), fun q => absurd h q⟩, ⟨fun _ => h, fun _ => rfl⟩⟩
  · rw [if_neg h]; exact ⟨⟨fun _ => h, fun _ => rfl⟩, ⟨fun q => absurd q (by decide), fun q => absurd q h⟩⟩
theorem rdg_iff {c : Int} : (rdg c = 0 ↔ ¬ (48 ≤ c ∧ c ≤ 57)) ∧ (rdg c = 1 ↔ (48 ≤ c ∧ c ≤ 57)) := by
  unfold rdg
  by_cases h : 48 ≤ c ∧ c ≤ 57
  · rw [if_pos h]; exact ⟨⟨fun q => absurd q (by decide), fun q => absurd h q⟩, ⟨fun _ => h, fun _ => rfl⟩⟩
  · rw [if_neg h]; exact ⟨⟨fun _ => h, fun _ => rfl⟩, ⟨fun q => absurd q (by decide), fun q => absurd q h⟩⟩
theorem rsm_01 {c : Int} : rsm c = 0 ∨ rsm c = 1 := by
  unfold rsm
  by_cases h : 97 ≤ c ∧ c ≤ 122
  · rw [if_pos h]; exact Or.inr rfl
  · rw [if_neg h]; exact Or.inl rfl
theorem tn_le {τ : Int → Int} {b : Int} (h : ∀ j : Nat, j < 2 → 0 ≤ τ (b + (j : Int)) ∧ τ (b + (j : Int)) ≤ 255) : ∀ k : Nat, k ≤ 2 → -1000 ≤ tn τ b k ∧ tn τ b k ≤ 3000 := by
  intro k hk
  have h0 := h 0 (by decide)
  have h1 := h 1 (by decide)
  match k, hk with
  | 0, _ => exact ⟨by show (-1000 : Int) ≤ 0; decide, by show (0 : Int) ≤ 3000; decide⟩
  | 1, _ =>
    show -1000 ≤ 10 * 0 + τ (b + ((0 : Nat) : Int)) - 48 ∧ 10 * 0 + τ (b + ((0 : Nat) : Int)) - 48 ≤ 3000
    omega
  | 2, _ =>
    show -1000 ≤ 10 * (10 * 0 + τ (b + ((0 : Nat) : Int)) - 48) + τ (b + ((1 : Nat) : Int)) - 48 ∧ 10 * (10 * 0 + τ (b + ((0 : Nat) : Int)) - 48) + τ (b + ((1 : Nat) : Int)) - 48 ≤ 3000
    omega
  | n + 3, h => omega
theorem tl_more {τ : Int → Int} {b lo hi : Int} {k : Nat} : (∀ j : Nat, j < k + 1 → lo ≤ τ (b + (j : Int)) ∧ τ (b + (j : Int)) ≤ hi) ↔ (∀ j : Nat, j < k → lo ≤ τ (b + (j : Int)) ∧ τ (b + (j : Int)) ≤ hi) ∧ (lo ≤ τ (b + (k : Int)) ∧ τ (b + (k : Int)) ≤ hi) := by
  constructor
  · exact fun h => ⟨fun j hj => h j (by omega), h k (by omega)⟩
  · intro h j hj
    by_cases e : j = k
    · rw [e]; exact h.2
    · exact h.1 j (by omega)
/-- a place more -/
theorem rrn_go {σ0 σ2 : vS} {b sm al al2 : Int} {k : Nat} (h8 : ∀ q : Int, 0 ≤ rtx σ0 q ∧ rtx σ0 q ≤ 255) (h : rrn σ0 b sm k al σ) (hc : tal (rpk σ) = true) (hr : rfr σ0 σ2) (e12 : σ2 12 12 = σ 12 12) (e4 : σ2 12 4 = σ 12 4 + 1) (e13 : σ2 12 13 = σ 12 13 + 1) (e17 : k < 7 → σ2 12 17 = vlor (vlsh (σ 12 17) 8) (rpk σ)) (e14 : k < 2 → σ2 12 14 = 10 * σ 12 14 + rpk σ - 48) (ha : (al = 1 ∧ rsm (rpk σ) = sm ∧ al2 = 1) ∨ (¬ (al = 1 ∧ rsm (rpk σ) = sm) ∧ al2 = 0)) : rrn σ0 b sm (k + 1) al2 σ2 := by
  obtain ⟨h1, h2, h3, h4, h5, h6, h7, h9, h10⟩ := h
  have hp := rpk_of h1
  rw [h3] at hp
  have hlt : b + (k : Int) < σ0 12 3 := by
    by_cases q : b + (k : Int) < σ0 12 3
    · exact q
    · rw [if_neg q] at hp
      rw [hp, tal_iff] at hc
      omega
  rw [if_pos hlt] at hp
  have hcc := tal_iff.mp hc
  rw [hp] at e17 e14 ha hc hcc
  have hb := h8 (b + (k : Int))
  refine ⟨hr, by rw [e12, h2], by rw [e4, h3]; omega, by rw [e13, h4]; omega, fun q => ?_, fun q => ?_, by omega, ?_, ?_⟩
  · rw [e17 (by omega), h5 (by omega), tw_more (k := k) (by omega) (tw_o (fun j _ => h8 _)) hb]
    rfl
  · rw [e14 (by omega), h6 (by omega)]
    rfl
  · have s1 := rsm_iff (c := rtx σ0 (b + (k : Int)))
    rcases h9 with ⟨g1, g2⟩ | ⟨g1, g2⟩
    · refine Or.inl ⟨g1, ?_⟩
      unfold tls
      rw [tl_more]
      rw [g1] at ha
      rcases ha with ⟨a1, a2, a3⟩ | ⟨a1, a3⟩
      · exact ⟨fun _ => ⟨g2.mp a1, s1.2.mp a2⟩, fun _ => a3⟩
      · exact ⟨fun q => by omega, fun q => absurd ⟨g2.mpr q.1, s1.2.mpr q.2⟩ a1⟩
    · refine Or.inr ⟨g1, ?_⟩
      unfold tds
      rw [tl_more]
      rw [g1] at ha
      rcases ha with ⟨a1, a2, a3⟩ | ⟨a1, a3⟩
      · have := s1.1.mp a2
        exact ⟨fun _ => ⟨g2.mp a1, by omega⟩, fun _ => a3⟩
      · exact ⟨fun q => by omega, fun q => absurd ⟨g2.mpr q.1, s1.1.mpr (by omega)⟩ a1⟩
  · have e : b + ((k + 1 : Nat) : Int) = b + (k : Int) + 1 := by omega
    rw [e, ← tE_go (P := fun q => tal (rtx σ0 q)) hlt hc]
    exact h10
theorem tal_f {c : Int} (h1 : ¬ (97 ≤ c ∧ c ≤ 122)) (h2 : ¬ (48 ≤ c ∧ c ≤ 57)) : tal c = false := by
  cases h : tal c with
  | false => rfl
  | true => rw [tal_iff] at h; omega
theorem rk_run (X : zX KX E) (B : zB E) {σ0 : vS} {b sm : Int} (h8 : ∀ q : Int, 0 ≤ rtx σ0 q ∧ rtx σ0 q ≤ 255) (hsm : sm = 0 ∨ sm = 1) (hb0 : 0 ≤ b) (hK : ∀ (k : Nat) (al : Int) (σ2 : vS) {σ : vS}, rrn σ0 b sm k al σ → tal (rpk σ) = false → rfr σ0 σ2 → σ2 12 12 = σ 12 12 → σ2 12 4 = σ 12 4 → σ2 12 14 = σ 12 14 → σ2 12 17 = σ 12 17 → ∀ tok : Int, σ2 12 11 = tok → ((tok = 1 ∧ al = 1 ∧ sm = 1 ∧ k ≤ 7) ∨ (tok = 2 ∧ al = 1 ∧ sm = 0 ∧ k ≤ 2) ∨ (tok = 4 ∧ (al = 0 ∨ (sm = 1 ∧ 7 < k) ∨ (sm = 0 ∧ 2 < k)))) → K none σ2) : ∀ (m : Nat) (k : Nat) (al : Int) (σ : vS), 940 - (b + (k : Int)) < (m : Int) → rrn σ0 b sm k al σ → zGL E gJ1 mdT w gm_271 181 [(0, .inr (.inl 12)), (2, .inl sm), (3, .inl al)] σ K := by
  intro m
  induction m with
  | zero =>
    intro k al σ hm hI
    refine zbdL (fun hb => ?_)
    have f : 0 ≤ σ 12 4 ∧ σ 12 4 ≤ 940 := zfL B hb (t := 12) (f := 4) (by decide +kernel)
    have h3 := hI.2.2.1
    omega
  | succ m ih =>
    intro k al σ hm hI
    refine zbdL (fun hb => ?_)
    obtain ⟨h1, h2, h3, h4, h5, h6, h7, h9, h10⟩ := id hI
    have s1 := rsm_iff (c := rpk σ)
    have s2 := rdg_iff (c := rpk σ)
    have s3 := rsm_01 (c := rpk σ)
    have hp := rpk_of h1
    have n3 : 0 ≤ σ 12 3 ∧ σ 12 3 ≤ 940 := zfL B hb (t := 12) (f := 3) (by decide +kernel)
    have e3 : σ 12 3 = σ0 12 3 := h1.2 3 (by decide) (by decide) (by decide) (by decide) (by decide) (by decide)
    have hq : (0 ≤ rpk σ → σ 12 4 < 940) ∧ -1 ≤ rpk σ ∧ rpk σ ≤ 255 := by
      by_cases q : σ 12 4 < σ0 12 3
      · rw [if_pos q] at hp
        have := h8 (σ 12 4)
        rw [hp]
        exact ⟨fun _ => by omega, by omega, by omega⟩
      · rw [if_neg q] at hp
        rw [hp]
        exact ⟨fun _ => by omega, by omega, by omega⟩
    have hn : k ≤ 2 → -1000 ≤ σ 12 14 ∧ σ 12 14 ≤ 3000 := fun q => by
      rw [h6 q]
      exact tn_le (fun j _ => h8 _) k q
    refine zgoL X B (rS_ok X B) [] [(0, [0]), (181, [0, 2, 3])] (fun m => Nat.beq m.2.2.2.2.1 120) (by decide +kernel) ?_
    refine And.intro (fun (c1 : ¬ (rsm (rpk σ)) = 0) => ?_) (fun (c2 : (rsm (rpk σ)) = 0) => ?_)
    · refine And.intro (fun (c3 : al = 0) => ?_) (fun (c4 : ¬ al = 0) => ?_)
      · have f5 : (-2147483648) ≤ σ 12 13 ∧ σ 12 13 ≤ 2147483647 := zfL B hb (t := 12) (f := 13) (by decide +kernel)
        refine And.intro (fun (c6 : 7 ≤ (σ 12 13)) => ?_) (fun (c7 : (σ 12 13) < 7) => ?_)
        · refine And.intro (fun (c8 : 2 ≤ (σ 12 13)) => ?_) (fun (c9 : (σ 12 13) < 2) => ?_)
          · refine And.intro (show -2147483648 ≤ ((σ 12 13) + 1) ∧ ((σ 12 13) + 1) ≤ 2147483647 from by omega) ?_
            refine And.intro (show Int.negSucc 2147483647 ≤ ((σ 12 13) + 1) ∧ ((σ 12 13) + 1) ≤ 2147483647 from rgm (by omega)) ?_
            have f10 : 0 ≤ σ 12 4 ∧ σ 12 4 ≤ 940 := zfL B hb (t := 12) (f := 4) (by decide +kernel)
            refine And.intro (show -2147483648 ≤ ((σ 12 4) + 1) ∧ ((σ 12 4) + 1) ≤ 2147483647 from by omega) ?_
            refine And.intro (show 0 ≤ ((σ 12 4) + 1) ∧ ((σ 12 4) + 1) ≤ 940 from by omega) ?_
            show zGL E gJ1 mdT w gm_271 181 [(0, .inr (.inl 12)), (2, .inl sm), (3, .inl 0)] (vup (vup σ 12 13 ((σ 12 13) + 1)) 12 4 ((σ 12 4) + 1)) K
            exact ih (k + 1) 0 _ (by omega) (rrn_go (al2 := 0) h8 hI (tal_iff.mpr (by omega)) (rfr_up (rfr_up (h1) (by decide)) (by decide)) rfl rfl rfl (fun q => by first | rfl | (exfalso; omega)) (fun q => by first | rfl | (exfalso; omega)) (Or.inr ⟨by omega, rfl⟩))
          · have f11 : (-2147483648) ≤ σ 12 14 ∧ σ 12 14 ≤ 2147483647 := zfL B hb (t := 12) (f := 14) (by decide +kernel)
            refine And.intro (show -2147483648 ≤ (10 * (σ 12 14)) ∧ (10 * (σ 12 14)) ≤ 2147483647 from by omega) ?_
            refine And.intro (show -2147483648 ≤ ((10 * (σ 12 14)) + (rpk σ)) ∧ ((10 * (σ 12 14)) + (rpk σ)) ≤ 2147483647 from by omega) ?_
            refine And.intro (show -2147483648 ≤ (((10 * (σ 12 14)) + (rpk σ)) - 48) ∧ (((10 * (σ 12 14)) + (rpk σ)) - 48) ≤ 2147483647 from by omega) ?_
            refine And.intro (show Int.negSucc 2147483647 ≤ (((10 * (σ 12 14)) + (rpk σ)) - 48) ∧ (((10 * (σ 12 14)) + (rpk σ)) - 48) ≤ 2147483647 from rgm (by omega)) ?_
            refine And.intro (show -2147483648 ≤ ((σ 12 13) + 1) ∧ ((σ 12 13) + 1) ≤ 2147483647 from by omega) ?_
            refine And.intro (show Int.negSucc 2147483647 ≤ ((σ 12 13) + 1) ∧ ((σ 12 13) + 1) ≤ 2147483647 from rgm (by omega)) ?_
            have f12 : 0 ≤ σ 12 4 ∧ σ 12 4 ≤ 940 := zfL B hb (t := 12) (f := 4) (by decide +kernel)
            refine And.intro (show -2147483648 ≤ ((σ 12 4) + 1) ∧ ((σ 12 4) + 1) ≤ 2147483647 from by omega) ?_
            refine And.intro (show 0 ≤ ((σ 12 4) + 1) ∧ ((σ 12 4) + 1) ≤ 940 from by omega) ?_
            show zGL E gJ1 mdT w gm_271 181 [(0, .inr (.inl 12)), (2, .inl sm), (3, .inl 0)] (vup (vup (vup σ 12 14 (((10 * (σ 12 14)) + (rpk σ)) - 48)) 12 13 ((σ 12 13) + 1)) 12 4 ((σ 12 4) + 1)) K
            exact ih (k + 1) 0 _ (by omega) (rrn_go (al2 := 0) h8 hI (tal_iff.mpr (by omega)) (rfr_up (rfr_up (rfr_up (h1) (by decide)) (by decide)) (by decide)) rfl rfl rfl (fun q => by first | rfl | (exfalso; omega)) (fun q => by first | rfl | (exfalso; omega)) (Or.inr ⟨by omega, rfl⟩))
        · refine And.intro (fun (c13 : 2 ≤ (σ 12 13)) => ?_) (fun (c14 : (σ 12 13) < 2) => ?_)
          · refine And.intro (show -2147483648 ≤ ((σ 12 13) + 1) ∧ ((σ 12 13) + 1) ≤ 2147483647 from by omega) ?_
            refine And.intro (show Int.negSucc 2147483647 ≤ ((σ 12 13) + 1) ∧ ((σ 12 13) + 1) ≤ 2147483647 from rgm (by omega)) ?_
            have f15 : 0 ≤ σ 12 4 ∧ σ 12 4 ≤ 940 := zfL B hb (t := 12) (f := 4) (by decide +kernel)
            refine And.intro (show -2147483648 ≤ ((σ 12 4) + 1) ∧ ((σ 12 4) + 1) ≤ 2147483647 from by omega) ?_
            refine And.intro (show 0 ≤ ((σ 12 4) + 1) ∧ ((σ 12 4) + 1) ≤ 940 from by omega) ?_
            show zGL E gJ1 mdT w gm_271 181 [(0, .inr (.inl 12)), (2, .inl sm), (3, .inl 0)] (vup (vup (vup σ 12 17 (vlor (vlsh (σ 12 17) 8) (rpk σ))) 12 13 ((σ 12 13) + 1)) 12 4 ((σ 12 4) + 1)) K
            exact ih (k + 1) 0 _ (by omega) (rrn_go (al2 := 0) h8 hI (tal_iff.mpr (by omega)) (rfr_up (rfr_up (rfr_up (h1) (by decide)) (by decide)) (by decide)) rfl rfl rfl (fun q => by first | rfl | (exfalso; omega)) (fun q => by first | rfl | (exfalso; omega)) (Or.inr ⟨by omega, rfl⟩))
          · have f16 : (-2147483648) ≤ σ 12 14 ∧ σ 12 14 ≤ 2147483647 := zfL B hb (t := 12) (f := 14) (by decide +kernel)
            refine And.intro (show -2147483648 ≤ (10 * (σ 12 14)) ∧ (10 * (σ 12 14)) ≤ 2147483647 from by omega) ?_
            refine And.intro (show -2147483648 ≤ ((10 * (σ 12 14)) + (rpk σ)) ∧ ((10 * (σ 12 14)) + (rpk σ)) ≤ 2147483647 from by omega) ?_
            refine And.intro (show -2147483648 ≤ (((10 * (σ 12 14)) + (rpk σ)) - 48) ∧ (((10 * (σ 12 14)) + (rpk σ)) - 48) ≤ 2147483647 from by omega) ?_
            refine And.intro (show Int.negSucc 2147483647 ≤ (((10 * (σ 12 14)) + (rpk σ)) - 48) ∧ (((10 * (σ 12 14)) + (rpk σ)) - 48) ≤ 2147483647 from rgm (by omega)) ?_
            refine And.intro (show -2147483648 ≤ ((σ 12 13) + 1) ∧ ((σ 12 13) + 1) ≤ 2147483647 from by omega) ?_
            refine And.intro (show Int.negSucc 2147483647 ≤ ((σ 12 13) + 1) ∧ ((σ 12 13) + 1) ≤ 2147483647 from rgm (by omega)) ?_
            have f17 : 0 ≤ σ 12 4 ∧ σ 12 4 ≤ 940 := zfL B hb (t := 12) (f := 4) (by decide +kernel)
            refine And.intro (show -2147483648 ≤ ((σ 12 4) + 1) ∧ ((σ 12 4) + 1) ≤ 2147483647 from by omega) ?_
            refine And.intro (show 0 ≤ ((σ 12 4) + 1) ∧ ((σ 12 4) + 1) ≤ 940 from by omega) ?_
            show zGL E gJ1 mdT w gm_271 181 [(0, .inr (.inl 12)), (2, .inl sm), (3, .inl 0)] (vup (vup (vup (vup σ 12 17 (vlor (vlsh (σ 12 17) 8) (rpk σ))) 12 14 (((10 * (σ 12 14)) + (rpk σ)) - 48)) 12 13 ((σ 12 13) + 1)) 12 4 ((σ 12 4) + 1)) K
            exact ih (k + 1) 0 _ (by omega) (rrn_go (al2 := 0) h8 hI (tal_iff.mpr (by omega)) (rfr_up (rfr_up (rfr_up (rfr_up (h1) (by decide)) (by decide)) (by decide)) (by decide)) rfl rfl rfl (fun q => by first | rfl | (exfalso; omega)) (fun q => by first | rfl | (exfalso; omega)) (Or.inr ⟨by omega, rfl⟩))
      · refine And.intro (fun (c18 : ¬ (rsm (rpk σ)) = sm) => ?_) (fun (c19 : (rsm (rpk σ)) = sm) => ?_)
        · have f20 : (-2147483648) ≤ σ 12 13 ∧ σ 12 13 ≤ 2147483647 := zfL B hb (t := 12) (f := 13) (by decide +kernel)
          refine And.intro (fun (c21 : 7 ≤ (σ 12 13)) => ?_) (fun (c22 : (σ 12 13) < 7) => ?_)
          · refine And.intro (fun (c23 : 2 ≤ (σ 12 13)) => ?_) (fun (c24 : (σ 12 13) < 2) => ?_)
            · refine And.intro (show -2147483648 ≤ ((σ 12 13) + 1) ∧ ((σ 12 13) + 1) ≤ 2147483647 from by omega) ?_
              refine And.intro (show Int.negSucc 2147483647 ≤ ((σ 12 13) + 1) ∧ ((σ 12 13) + 1) ≤ 2147483647 from rgm (by omega)) ?_
              have f25 : 0 ≤ σ 12 4 ∧ σ 12 4 ≤ 940 := zfL B hb (t := 12) (f := 4) (by decide +kernel)
              refine And.intro (show -2147483648 ≤ ((σ 12 4) + 1) ∧ ((σ 12 4) + 1) ≤ 2147483647 from by omega) ?_
              refine And.intro (show 0 ≤ ((σ 12 4) + 1) ∧ ((σ 12 4) + 1) ≤ 940 from by omega) ?_
              show zGL E gJ1 mdT w gm_271 181 [(0, .inr (.inl 12)), (2, .inl sm), (3, .inl 0)] (vup (vup σ 12 13 ((σ 12 13) + 1)) 12 4 ((σ 12 4) + 1)) K
              exact ih (k + 1) 0 _ (by omega) (rrn_go (al2 := 0) h8 hI (tal_iff.mpr (by omega)) (rfr_up (rfr_up (h1) (by decide)) (by decide)) rfl rfl rfl (fun q => by first | rfl | (exfalso; omega)) (fun q => by first | rfl | (exfalso; omega)) (Or.inr ⟨by omega, rfl⟩))
            · have f26 : (-2147483648) ≤ σ 12 14 ∧ σ 12 14 ≤ 2147483647 := zfL B hb (t := 12) (f := 14) (by decide +kernel)
              refine And.intro (show -2147483648 ≤ (10 * (σ 12 14)) ∧ (10 * (σ 12 14)) ≤ 2147483647 from by omega) ?_
              refine And.intro (show -2147483648 ≤ ((10 * (σ 12 14)) + (rpk σ)) ∧ ((10 * (σ 12 14)) + (rpk σ)) ≤ 2147483647 from by omega) ?_
              refine And.intro (show -2147483648 ≤ (((10 * (σ 12 14)) + (rpk σ)) - 48) ∧ (((10 * (σ 12 14)) + (rpk σ)) - 48) ≤ 2147483647 from by omega) ?_
              refine And.intro (show Int.negSucc 2147483647 ≤ (((10 * (σ 12 14)) + (rpk σ)) - 48) ∧ (((10 * (σ 12 14)) + (rpk σ)) - 48) ≤ 2147483647 from rgm (by omega)) ?_
              refine And.intro (show -2147483648 ≤ ((σ 12 13) + 1) ∧ ((σ 12 13) + 1) ≤ 2147483647 from by omega) ?_
              refine And.intro (show Int.negSucc 2147483647 ≤ ((σ 12 13) + 1) ∧ ((σ 12 13) + 1) ≤ 2147483647 from rgm (by omega)) ?_
              have f27 : 0 ≤ σ 12 4 ∧ σ 12 4 ≤ 940 := zfL B hb (t := 12) (f := 4) (by decide +kernel)
              refine And.intro (show -2147483648 ≤ ((σ 12 4) + 1) ∧ ((σ 12 4) + 1) ≤ 2147483647 from by omega) ?_
              refine And.intro (show 0 ≤ ((σ 12 4) + 1) ∧ ((σ 12 4) + 1) ≤ 940 from by omega) ?_
              show zGL E gJ1 mdT w gm_271 181 [(0, .inr (.inl 12)), (2, .inl sm), (3, .inl 0)] (vup (vup (vup σ 12 14 (((10 * (σ 12 14)) + (rpk σ)) - 48)) 12 13 ((σ 12 13) + 1)) 12 4 ((σ 12 4) + 1)) K
              exact ih (k + 1) 0 _ (by omega) (rrn_go (al2 := 0) h8 hI (tal_iff.mpr (by omega)) (rfr_up (rfr_up (rfr_up (h1) (by decide)) (by decide)) (by decide)) rfl rfl rfl (fun q => by first | rfl | (exfalso; omega)) (fun q => by first | rfl | (exfalso; omega)) (Or.inr ⟨by omega, rfl⟩))
          · refine And.intro (fun (c28 : 2 ≤ (σ 12 13)) => ?_) (fun (c29 : (σ 12 13) < 2) => ?_)
            · refine And.intro (show -2147483648 ≤ ((σ 12 13) + 1) ∧ ((σ 12 13) + 1) ≤ 2147483647 from by omega) ?_
              refine And.intro (show Int.negSucc 2147483647 ≤ ((σ 12 13) + 1) ∧ ((σ 12 13) + 1) ≤ 2147483647 from rgm (by omega)) ?_
              have f30 : 0 ≤ σ 12 4 ∧ σ 12 4 ≤ 940 := zfL B hb (t := 12) (f := 4) (by decide +kernel)
              refine And.intro (show -2147483648 ≤ ((σ 12 4) + 1) ∧ ((σ 12 4) + 1) ≤ 2147483647 from by omega) ?_
              refine And.intro (show 0 ≤ ((σ 12 4) + 1) ∧ ((σ 12 4) + 1) ≤ 940 from by omega) ?_
              show zGL E gJ1 mdT w gm_271 181 [(0, .inr (.inl 12)), (2, .inl sm), (3, .inl 0)] (vup (vup (vup σ 12 17 (vlor (vlsh (σ 12 17) 8) (rpk σ))) 12 13 ((σ 12 13) + 1)) 12 4 ((σ 12 4) + 1)) K
              exact ih (k + 1) 0 _ (by omega) (rrn_go (al2 := 0) h8 hI (tal_iff.mpr (by omega)) (rfr_up (rfr_up (rfr_up (h1) (by decide)) (by decide)) (by decide)) rfl rfl rfl (fun q => by first | rfl | (exfalso; omega)) (fun q => by first | rfl | (exfalso; omega)) (Or.inr ⟨by omega, rfl⟩))
            · have f31 : (-2147483648) ≤ σ 12 14 ∧ σ 12 14 ≤ 2147483647 := zfL B hb (t := 12) (f := 14) (by decide +kernel)
              refine And.intro (show -2147483648 ≤ (10 * (σ 12 14)) ∧ (10 * (σ 12 14)) ≤ 2147483647 from by omega) ?_
              refine And.intro (show -2147483648 ≤ ((10 * (σ 12 14)) + (rpk σ)) ∧ ((10 * (σ 12 14)) + (rpk σ)) ≤ 2147483647 from by omega) ?_
              refine And.intro (show -2147483648 ≤ (((10 * (σ 12 14)) + (rpk σ)) - 48) ∧ (((10 * (σ 12 14)) + (rpk σ)) - 48) ≤ 2147483647 from by omega) ?_
              refine And.intro (show Int.negSucc 2147483647 ≤ (((10 * (σ 12 14)) + (rpk σ)) - 48) ∧ (((10 * (σ 12 14)) + (rpk σ)) - 48) ≤ 2147483647 from rgm (by omega)) ?_
              refine And.intro (show -2147483648 ≤ ((σ 12 13) + 1) ∧ ((σ 12 13) + 1) ≤ 2147483647 from by omega) ?_
              refine And.intro (show Int.negSucc 2147483647 ≤ ((σ 12 13) + 1) ∧ ((σ 12 13) + 1) ≤ 2147483647 from rgm (by omega)) ?_
              have f32 : 0 ≤ σ 12 4 ∧ σ 12 4 ≤ 940 := zfL B hb (t := 12) (f := 4) (by decide +kernel)
              refine And.intro (show -2147483648 ≤ ((σ 12 4) + 1) ∧ ((σ 12 4) + 1) ≤ 2147483647 from by omega) ?_
              refine And.intro (show 0 ≤ ((σ 12 4) + 1) ∧ ((σ 12 4) + 1) ≤ 940 from by omega) ?_
              show zGL E gJ1 mdT w gm_271 181 [(0, .inr (.inl 12)), (2, .inl sm), (3, .inl 0)] (vup (vup (vup (vup σ 12 17 (vlor (vlsh (σ 12 17) 8) (rpk σ))) 12 14 (((10 * (σ 12 14)) + (rpk σ)) - 48)) 12 13 ((σ 12 13) + 1)) 12 4 ((σ 12 4) + 1)) K
              exact ih (k + 1) 0 _ (by omega) (rrn_go (al2 := 0) h8 hI (tal_iff.mpr (by omega)) (rfr_up (rfr_up (rfr_up (rfr_up (h1) (by decide)) (by decide)) (by decide)) (by decide)) rfl rfl rfl (fun q => by first | rfl | (exfalso; omega)) (fun q => by first | rfl | (exfalso; omega)) (Or.inr ⟨by omega, rfl⟩))
        · have f33 : (-2147483648) ≤ σ 12 13 ∧ σ 12 13 ≤ 2147483647 := zfL B hb (t := 12) (f := 13) (by decide +kernel)
          refine And.intro (fun (c34 : 7 ≤ (σ 12 13)) => ?_) (fun (c35 : (σ 12 13) < 7) => ?_)
          · refine And.intro (fun (c36 : 2 ≤ (σ 12 13)) => ?_) (fun (c37 : (σ 12 13) < 2) => ?_)
            · refine And.intro (show -2147483648 ≤ ((σ 12 13) + 1) ∧ ((σ 12 13) + 1) ≤ 2147483647 from by omega) ?_
              refine And.intro (show Int.negSucc 2147483647 ≤ ((σ 12 13) + 1) ∧ ((σ 12 13) + 1) ≤ 2147483647 from rgm (by omega)) ?_
              have f38 : 0 ≤ σ 12 4 ∧ σ 12 4 ≤ 940 := zfL B hb (t := 12) (f := 4) (by decide +kernel)
              refine And.intro (show -2147483648 ≤ ((σ 12 4) + 1) ∧ ((σ 12 4) + 1) ≤ 2147483647 from by omega) ?_
              refine And.intro (show 0 ≤ ((σ 12 4) + 1) ∧ ((σ 12 4) + 1) ≤ 940 from by omega) ?_
              show zGL E gJ1 mdT w gm_271 181 [(0, .inr (.inl 12)), (2, .inl sm), (3, .inl 1)] (vup (vup σ 12 13 ((σ 12 13) + 1)) 12 4 ((σ 12 4) + 1)) K
              exact ih (k + 1) 1 _ (by omega) (rrn_go (al2 := 1) h8 hI (tal_iff.mpr (by omega)) (rfr_up (rfr_up (h1) (by decide)) (by decide)) rfl rfl rfl (fun q => by first | rfl | (exfalso; omega)) (fun q => by first | rfl | (exfalso; omega)) (Or.inl ⟨by omega, by omega, rfl⟩))
            · have f39 : (-2147483648) ≤ σ 12 14 ∧ σ 12 14 ≤ 2147483647 := zfL B hb (t := 12) (f := 14) (by decide +kernel)
              refine And.intro (show -2147483648 ≤ (10 * (σ 12 14)) ∧ (10 * (σ 12 14)) ≤ 2147483647 from by omega) ?_
              refine And.intro (show -2147483648 ≤ ((10 * (σ 12 14)) + (rpk σ)) ∧ ((10 * (σ 12 14)) + (rpk σ)) ≤ 2147483647 from by omega) ?_
              refine And.intro (show -2147483648 ≤ (((10 * (σ 12 14)) + (rpk σ)) - 48) ∧ (((10 * (σ 12 14)) + (rpk σ)) - 48) ≤ 2147483647 from by omega) ?_
              refine And.intro (show Int.negSucc 2147483647 ≤ (((10 * (σ 12 14)) + (rpk σ)) - 48) ∧ (((10 * (σ 12 14)) + (rpk σ)) - 48) ≤ 2147483647 from rgm (by omega)) ?_
              refine And.intro (show -2147483648 ≤ ((σ 12 13) + 1) ∧ ((σ 12 13) + 1) ≤ 2147483647 from by omega) ?_
              refine And.intro (show Int.negSucc 2147483647 ≤ ((σ 12 13) + 1) ∧ ((σ 12 13) + 1) ≤ 2147483647 from rgm (by omega)) ?_
              have f40 : 0 ≤ σ 12 4 ∧ σ 12 4 ≤ 940 := zfL B hb (t := 12) (f := 4) (by decide +kernel)
              refine And.intro (show -2147483648 ≤ ((σ 12 4) + 1) ∧ ((σ 12 4) + 1) ≤ 2147483647 from by omega) ?_
              refine And.intro (show 0 ≤ ((σ 12 4) + 1) ∧ ((σ 12 4) + 1) ≤ 940 from by omega) ?_
              show zGL E gJ1 mdT w gm_271 181 [(0, .inr (.inl 12)), (2, .inl sm), (3, .inl 1)] (vup (vup (vup σ 12 14 (((10 * (σ 12 14)) + (rpk σ)) - 48)) 12 13 ((σ 12 13) + 1)) 12 4 ((σ 12 4) + 1)) K
              exact ih (k + 1) 1 _ (by omega) (rrn_go (al2 := 1) h8 hI (tal_iff.mpr (by omega)) (rfr_up (rfr_up (rfr_up (h1) (by decide)) (by decide)) (by decide)) rfl rfl rfl (fun q => by first | rfl | (exfalso; omega)) (fun q => by first | rfl | (exfalso; omega)) (Or.inl ⟨by omega, by omega, rfl⟩))
          · refine And.intro (fun (c41 : 2 ≤ (σ 12 13)) => ?_) (fun (c42 : (σ 12 13) < 2) => ?_)
            · refine And.intro (show -2147483648 ≤ ((σ 12 13) + 1) ∧ ((σ 12 13) + 1) ≤ 2147483647 from by omega) ?_
              refine And.intro (show Int.negSucc 2147483647 ≤ ((σ 12 13) + 1) ∧ ((σ 12 13) + 1) ≤ 2147483647 from rgm (by omega)) ?_
              have f43 : 0 ≤ σ 12 4 ∧ σ 12 4 ≤ 940 := zfL B hb (t := 12) (f := 4) (by decide +kernel)
              refine And.intro (show -2147483648 ≤ ((σ 12 4) + 1) ∧ ((σ 12 4) + 1) ≤ 2147483647 from by omega) ?_
              refine And.intro (show 0 ≤ ((σ 12 4) + 1) ∧ ((σ 12 4) + 1) ≤ 940 from by omega) ?_
              show zGL E gJ1 mdT w gm_271 181 [(0, .inr (.inl 12)), (2, .inl sm), (3, .inl 1)] (vup (vup (vup σ 12 17 (vlor (vlsh (σ 12 17) 8) (rpk σ))) 12 13 ((σ 12 13) + 1)) 12 4 ((σ 12 4) + 1)) K
              exact ih (k + 1) 1 _ (by omega) (rrn_go (al2 := 1) h8 hI (tal_iff.mpr (by omega)) (rfr_up (rfr_up (rfr_up (h1) (by decide)) (by decide)) (by decide)) rfl rfl rfl (fun q => by first | rfl | (exfalso; omega)) (fun q => by first | rfl | (exfalso; omega)) (Or.inl ⟨by omega, by omega, rfl⟩))
            · have f44 : (-2147483648) ≤ σ 12 14 ∧ σ 12 14 ≤ 2147483647 := zfL B hb (t := 12) (f := 14) (by decide +kernel)
              refine And.intro (show -2147483648 ≤ (10 * (σ 12 14)) ∧ (10 * (σ 12 14)) ≤ 2147483647 from by omega) ?_
              refine And.intro (show -2147483648 ≤ ((10 * (σ 12 14)) + (rpk σ)) ∧ ((10 * (σ 12 14)) + (rpk σ)) ≤ 2147483647 from by omega) ?_
              refine And.intro (show -2147483648 ≤ (((10 * (σ 12 14)) + (rpk σ)) - 48) ∧ (((10 * (σ 12 14)) + (rpk σ)) - 48) ≤ 2147483647 from by omega) ?_
              refine And.intro (show Int.negSucc 2147483647 ≤ (((10 * (σ 12 14)) + (rpk σ)) - 48) ∧ (((10 * (σ 12 14)) + (rpk σ)) - 48) ≤ 2147483647 from rgm (by omega)) ?_
              refine And.intro (show -2147483648 ≤ ((σ 12 13) + 1) ∧ ((σ 12 13) + 1) ≤ 2147483647 from by omega) ?_
              refine And.intro (show Int.negSucc 2147483647 ≤ ((σ 12 13) + 1) ∧ ((σ 12 13) + 1) ≤ 2147483647 from rgm (by omega)) ?_
              have f45 : 0 ≤ σ 12 4 ∧ σ 12 4 ≤ 940 := zfL B hb (t := 12) (f := 4) (by decide +kernel)
              refine And.intro (show -2147483648 ≤ ((σ 12 4) + 1) ∧ ((σ 12 4) + 1) ≤ 2147483647 from by omega) ?_
              refine And.intro (show 0 ≤ ((σ 12 4) + 1) ∧ ((σ 12 4) + 1) ≤ 940 from by omega) ?_
              show zGL E gJ1 mdT w gm_271 181 [(0, .inr (.inl 12)), (2, .inl sm), (3, .inl 1)] (vup (vup (vup (vup σ 12 17 (vlor (vlsh (σ 12 17) 8) (rpk σ))) 12 14 (((10 * (σ 12 14)) + (rpk σ)) - 48)) 12 13 ((σ 12 13) + 1)) 12 4 ((σ 12 4) + 1)) K
              exact ih (k + 1) 1 _ (by omega) (rrn_go (al2 := 1) h8 hI (tal_iff.mpr (by omega)) (rfr_up (rfr_up (rfr_up (rfr_up (h1) (by decide)) (by decide)) (by decide)) (by decide)) rfl rfl rfl (fun q => by first | rfl | (exfalso; omega)) (fun q => by first | rfl | (exfalso; omega)) (Or.inl ⟨by omega, by omega, rfl⟩))
    · refine And.intro (fun (c46 : (rdg (rpk σ)) = 0) => ?_) (fun (c47 : ¬ (rdg (rpk σ)) = 0) => ?_)
      · refine And.intro (fun (c48 : al = 0) => ?_) (fun (c49 : ¬ al = 0) => ?_)
        · refine And.intro (show 0 ≤ 4 ∧ 4 ≤ 4 from by omega) ?_
          show K none (vup σ 12 11 4)
          exact hK k al _ hI (tal_f (by omega) (by omega)) (rfr_up (h1) (by decide)) rfl rfl rfl rfl 4 rfl (Or.inr (Or.inr ⟨rfl, by omega⟩))
        · have f50 : (-2147483648) ≤ σ 12 13 ∧ σ 12 13 ≤ 2147483647 := zfL B hb (t := 12) (f := 13) (by decide +kernel)
          refine And.intro (fun (c51 : sm = 0) => ?_) (fun (c52 : ¬ sm = 0) => ?_)
          · refine And.intro (fun (c53 : (σ 12 13) ≤ 2) => ?_) (fun (c54 : 2 < (σ 12 13)) => ?_)
            · refine And.intro (fun (c55 : sm = 0) => ?_) (fun (c56 : ¬ sm = 0) => ?_)
              · refine And.intro (show 0 ≤ 2 ∧ 2 ≤ 4 from by omega) ?_
                show K none (vup σ 12 11 2)
                exact hK k al _ hI (tal_f (by omega) (by omega)) (rfr_up (h1) (by decide)) rfl rfl rfl rfl 2 rfl (Or.inr (Or.inl ⟨rfl, by omega, by omega, by omega⟩))
              · refine And.intro (show 0 ≤ 1 ∧ 1 ≤ 4 from by omega) ?_
                show K none (vup σ 12 11 1)
                exact hK k al _ hI (tal_f (by omega) (by omega)) (rfr_up (h1) (by decide)) rfl rfl rfl rfl 1 rfl (Or.inl ⟨rfl, by omega, by omega, by omega⟩)
            · refine And.intro (show 0 ≤ 4 ∧ 4 ≤ 4 from by omega) ?_
              show K none (vup σ 12 11 4)
              exact hK k al _ hI (tal_f (by omega) (by omega)) (rfr_up (h1) (by decide)) rfl rfl rfl rfl 4 rfl (Or.inr (Or.inr ⟨rfl, by omega⟩))
          · refine And.intro (fun (c57 : (σ 12 13) ≤ 7) => ?_) (fun (c58 : 7 < (σ 12 13)) => ?_)
            · refine And.intro (fun (c59 : sm = 0) => ?_) (fun (c60 : ¬ sm = 0) => ?_)
              · refine And.intro (show 0 ≤ 2 ∧ 2 ≤ 4 from by omega) ?_
                show K none (vup σ 12 11 2)
                exact hK k al _ hI (tal_f (by omega) (by omega)) (rfr_up (h1) (by decide)) rfl rfl rfl rfl 2 rfl (Or.inr (Or.inl ⟨rfl, by omega, by omega, by omega⟩))
              · refine And.intro (show 0 ≤ 1 ∧ 1 ≤ 4 from by omega) ?_
                show K none (vup σ 12 11 1)
                exact hK k al _ hI (tal_f (by omega) (by omega)) (rfr_up (h1) (by decide)) rfl rfl rfl rfl 1 rfl (Or.inl ⟨rfl, by omega, by omega, by omega⟩)
            · refine And.intro (show 0 ≤ 4 ∧ 4 ≤ 4 from by omega) ?_
              show K none (vup σ 12 11 4)
              exact hK k al _ hI (tal_f (by omega) (by omega)) (rfr_up (h1) (by decide)) rfl rfl rfl rfl 4 rfl (Or.inr (Or.inr ⟨rfl, by omega⟩))
      · refine And.intro (fun (c61 : al = 0) => ?_) (fun (c62 : ¬ al = 0) => ?_)
        · have f63 : (-2147483648) ≤ σ 12 13 ∧ σ 12 13 ≤ 2147483647 := zfL B hb (t := 12) (f := 13) (by decide +kernel)
          refine And.intro (fun (c64 : 7 ≤ (σ 12 13)) => ?_) (fun (c65 : (σ 12 13) < 7) => ?_)
          · refine And.intro (fun (c66 : 2 ≤ (σ 12 13)) => ?_) (fun (c67 : (σ 12 13) < 2) => ?_)
            · refine And.intro (show -2147483648 ≤ ((σ 12 13) + 1) ∧ ((σ 12 13) + 1) ≤ 2147483647 from by omega) ?_
              refine And.intro (show Int.negSucc 2147483647 ≤ ((σ 12 13) + 1) ∧ ((σ 12 13) + 1) ≤ 2147483647 from rgm (by omega)) ?_
              have f68 : 0 ≤ σ 12 4 ∧ σ 12 4 ≤ 940 := zfL B hb (t := 12) (f := 4) (by decide +kernel)
              refine And.intro (show -2147483648 ≤ ((σ 12 4) + 1) ∧ ((σ 12 4) + 1) ≤ 2147483647 from by omega) ?_
              refine And.intro (show 0 ≤ ((σ 12 4) + 1) ∧ ((σ 12 4) + 1) ≤ 940 from by omega) ?_
              show zGL E gJ1 mdT w gm_271 181 [(0, .inr (.inl 12)), (2, .inl sm), (3, .inl 0)] (vup (vup σ 12 13 ((σ 12 13) + 1)) 12 4 ((σ 12 4) + 1)) K
              exact ih (k + 1) 0 _ (by omega) (rrn_go (al2 := 0) h8 hI (tal_iff.mpr (by omega)) (rfr_up (rfr_up (h1) (by decide)) (by decide)) rfl rfl rfl (fun q => by first | rfl | (exfalso; omega)) (fun q => by first | rfl | (exfalso; omega)) (Or.inr ⟨by omega, rfl⟩))
            · have f69 : (-2147483648) ≤ σ 12 14 ∧ σ 12 14 ≤ 2147483647 := zfL B hb (t := 12) (f := 14) (by decide +kernel)
              refine And.intro (show -2147483648 ≤ (10 * (σ 12 14)) ∧ (10 * (σ 12 14)) ≤ 2147483647 from by omega) ?_
              refine And.intro (show -2147483648 ≤ ((10 * (σ 12 14)) + (rpk σ)) ∧ ((10 * (σ 12 14)) + (rpk σ)) ≤ 2147483647 from by omega) ?_
              refine And.intro (show -2147483648 ≤ (((10 * (σ 12 14)) + (rpk σ)) - 48) ∧ (((10 * (σ 12 14)) + (rpk σ)) - 48) ≤ 2147483647 from by omega) ?_
              refine And.intro (show Int.negSucc 2147483647 ≤ (((10 * (σ 12 14)) + (rpk σ)) - 48) ∧ (((10 * (σ 12 14)) + (rpk σ)) - 48) ≤ 2147483647 from rgm (by omega)) ?_
              refine And.intro (show -2147483648 ≤ ((σ 12 13) + 1) ∧ ((σ 12 13) + 1) ≤ 2147483647 from by omega) ?_
              refine And.intro (show Int.negSucc 2147483647 ≤ ((σ 12 13) + 1) ∧ ((σ 12 13) + 1) ≤ 2147483647 from rgm (by omega)) ?_
              have f70 : 0 ≤ σ 12 4 ∧ σ 12 4 ≤ 940 := zfL B hb (t := 12) (f := 4) (by decide +kernel)
              refine And.intro (show -2147483648 ≤ ((σ 12 4) + 1) ∧ ((σ 12 4) + 1) ≤ 2147483647 from by omega) ?_
              refine And.intro (show 0 ≤ ((σ 12 4) + 1) ∧ ((σ 12 4) + 1) ≤ 940 from by omega) ?_
              show zGL E gJ1 mdT w gm_271 181 [(0, .inr (.inl 12)), (2, .inl sm), (3, .inl 0)] (vup (vup (vup σ 12 14 (((10 * (σ 12 14)) + (rpk σ)) - 48)) 12 13 ((σ 12 13) + 1)) 12 4 ((σ 12 4) + 1)) K
              exact ih (k + 1) 0 _ (by omega) (rrn_go (al2 := 0) h8 hI (tal_iff.mpr (by omega)) (rfr_up (rfr_up (rfr_up (h1) (by decide)) (by decide)) (by decide)) rfl rfl rfl (fun q => by first | rfl | (exfalso; omega)) (fun q => by first | rfl | (exfalso; omega)) (Or.inr ⟨by omega, rfl⟩))
          · refine And.intro (fun (c71 : 2 ≤ (σ 12 13)) => ?_) (fun (c72 : (σ 12 13) < 2) => ?_)
            · refine And.intro (show -2147483648 ≤ ((σ 12 13) + 1) ∧ ((σ 12 13) + 1) ≤ 2147483647 from by omega) ?_
              refine And.intro (show Int.negSucc 2147483647 ≤ ((σ 12 13) + 1) ∧ ((σ 12 13) + 1) ≤ 2147483647 from rgm (by omega)) ?_
              have f73 : 0 ≤ σ 12 4 ∧ σ 12 4 ≤ 940 := zfL B hb (t := 12) (f := 4) (by decide +kernel)
              refine And.intro (show -2147483648 ≤ ((σ 12 4) + 1) ∧ ((σ 12 4) + 1) ≤ 2147483647 from by omega) ?_
              refine And.intro (show 0 ≤ ((σ 12 4) + 1) ∧ ((σ 12 4) + 1) ≤ 940 from by omega) ?_
              show zGL E gJ1 mdT w gm_271 181 [(0, .inr (.inl 12)), (2, .inl sm), (3, .inl 0)] (vup (vup (vup σ 12 17 (vlor (vlsh (σ 12 17) 8) (rpk σ))) 12 13 ((σ 12 13) + 1)) 12 4 ((σ 12 4) + 1)) K
              exact ih (k + 1) 0 _ (by omega) (rrn_go (al2 := 0) h8 hI (tal_iff.mpr (by omega)) (rfr_up (rfr_up (rfr_up (h1) (by decide)) (by decide)) (by decide)) rfl rfl rfl (fun q => by first | rfl | (exfalso; omega)) (fun q => by first | rfl | (exfalso; omega)) (Or.inr ⟨by omega, rfl⟩))
            · have f74 : (-2147483648) ≤ σ 12 14 ∧ σ 12 14 ≤ 2147483647 := zfL B hb (t := 12) (f := 14) (by decide +kernel)
              refine And.intro (show -2147483648 ≤ (10 * (σ 12 14)) ∧ (10 * (σ 12 14)) ≤ 2147483647 from by omega) ?_
              refine And.intro (show -2147483648 ≤ ((10 * (σ 12 14)) + (rpk σ)) ∧ ((10 * (σ 12 14)) + (rpk σ)) ≤ 2147483647 from by omega) ?_
              refine And.intro (show -2147483648 ≤ (((10 * (σ 12 14)) + (rpk σ)) - 48) ∧ (((10 * (σ 12 14)) + (rpk σ)) - 48) ≤ 2147483647 from by omega) ?_
              refine And.intro (show Int.negSucc 2147483647 ≤ (((10 * (σ 12 14)) + (rpk σ)) - 48) ∧ (((10 * (σ 12 14)) + (rpk σ)) - 48) ≤ 2147483647 from rgm (by omega)) ?_
              refine And.intro (show -2147483648 ≤ ((σ 12 13) + 1) ∧ ((σ 12 13) + 1) ≤ 2147483647 from by omega) ?_
              refine And.intro (show Int.negSucc 2147483647 ≤ ((σ 12 13) + 1) ∧ ((σ 12 13) + 1) ≤ 2147483647 from rgm (by omega)) ?_
              have f75 : 0 ≤ σ 12 4 ∧ σ 12 4 ≤ 940 := zfL B hb (t := 12) (f := 4) (by decide +kernel)
              refine And.intro (show -2147483648 ≤ ((σ 12 4) + 1) ∧ ((σ 12 4) + 1) ≤ 2147483647 from by omega) ?_
              refine And.intro (show 0 ≤ ((σ 12 4) + 1) ∧ ((σ 12 4) + 1) ≤ 940 from by omega) ?_
              show zGL E gJ1 mdT w gm_271 181 [(0, .inr (.inl 12)), (2, .inl sm), (3, .inl 0)] (vup (vup (vup (vup σ 12 17 (vlor (vlsh (σ 12 17) 8) (rpk σ))) 12 14 (((10 * (σ 12 14)) + (rpk σ)) - 48)) 12 13 ((σ 12 13) + 1)) 12 4 ((σ 12 4) + 1)) K
              exact ih (k + 1) 0 _ (by omega) (rrn_go (al2 := 0) h8 hI (tal_iff.mpr (by omega)) (rfr_up (rfr_up (rfr_up (rfr_up (h1) (by decide)) (by decide)) (by decide)) (by decide)) rfl rfl rfl (fun q => by first | rfl | (exfalso; omega)) (fun q => by first | rfl | (exfalso; omega)) (Or.inr ⟨by omega, rfl⟩))
        · refine And.intro (fun (c76 : ¬ (rsm (rpk σ)) = sm) => ?_) (fun (c77 : (rsm (rpk σ)) = sm) => ?_)
          · have f78 : (-2147483648) ≤ σ 12 13 ∧ σ 12 13 ≤ 2147483647 := zfL B hb (t := 12) (f := 13) (by decide +kernel)
            refine And.intro (fun (c79 : 7 ≤ (σ 12 13)) => ?_) (fun (c80 : (σ 12 13) < 7) => ?_)
            · refine And.intro (fun (c81 : 2 ≤ (σ 12 13)) => ?_) (fun (c82 : (σ 12 13) < 2) => ?_)
              · refine And.intro (show -2147483648 ≤ ((σ 12 13) + 1) ∧ ((σ 12 13) + 1) ≤ 2147483647 from by omega) ?_
                refine And.intro (show Int.negSucc 2147483647 ≤ ((σ 12 13) + 1) ∧ ((σ 12 13) + 1) ≤ 2147483647 from rgm (by omega)) ?_
                have f83 : 0 ≤ σ 12 4 ∧ σ 12 4 ≤ 940 := zfL B hb (t := 12) (f := 4) (by decide +kernel)
                refine And.intro (show -2147483648 ≤ ((σ 12 4) + 1) ∧ ((σ 12 4) + 1) ≤ 2147483647 from by omega) ?_
                refine And.intro (show 0 ≤ ((σ 12 4) + 1) ∧ ((σ 12 4) + 1) ≤ 940 from by omega) ?_
                show zGL E gJ1 mdT w gm_271 181 [(0, .inr (.inl 12)), (2, .inl sm), (3, .inl 0)] (vup (vup σ 12 13 ((σ 12 13) + 1)) 12 4 ((σ 12 4) + 1)) K
                exact ih (k + 1) 0 _ (by omega) (rrn_go (al2 := 0) h8 hI (tal_iff.mpr (by omega)) (rfr_up (rfr_up (h1) (by decide)) (by decide)) rfl rfl rfl (fun q => by first | rfl | (exfalso; omega)) (fun q => by first | rfl | (exfalso; omega)) (Or.inr ⟨by omega, rfl⟩))
              · have f84 : (-2147483648) ≤ σ 12 14 ∧ σ 12 14 ≤ 2147483647 := zfL B hb (t := 12) (f := 14) (by decide +kernel)
                refine And.intro (show -2147483648 ≤ (10 * (σ 12 14)) ∧ (10 * (σ 12 14)) ≤ 2147483647 from by omega) ?_
                refine And.intro (show -2147483648 ≤ ((10 * (σ 12 14)) + (rpk σ)) ∧ ((10 * (σ 12 14)) + (rpk σ)) ≤ 2147483647 from by omega) ?_
                refine And.intro (show -2147483648 ≤ (((10 * (σ 12 14)) + (rpk σ)) - 48) ∧ (((10 * (σ 12 14)) + (rpk σ)) - 48) ≤ 2147483647 from by omega) ?_
                refine And.intro (show Int.negSucc 2147483647 ≤ (((10 * (σ 12 14)) + (rpk σ)) - 48) ∧ (((10 * (σ 12 14)) + (rpk σ)) - 48) ≤ 2147483647 from rgm (by omega)) ?_
                refine And.intro (show -2147483648 ≤ ((σ 12 13) + 1) ∧ ((σ 12 13) + 1) ≤ 2147483647 from by omega) ?_
                refine And.intro (show Int.negSucc 2147483647 ≤ ((σ 12 13) + 1) ∧ ((σ 12 13) + 1) ≤ 2147483647 from rgm (by omega)) ?_
                have f85 : 0 ≤ σ 12 4 ∧ σ 12 4 ≤ 940 := zfL B hb (t := 12) (f := 4) (by decide +kernel)
                refine And.intro (show -2147483648 ≤ ((σ 12 4) + 1) ∧ ((σ 12 4) + 1) ≤ 2147483647 from by omega) ?_
                refine And.intro (show 0 ≤ ((σ 12 4) + 1) ∧ ((σ 12 4) + 1) ≤ 940 from by omega) ?_
                show zGL E gJ1 mdT w gm_271 181 [(0, .inr (.inl 12)), (2, .inl sm), (3, .inl 0)] (vup (vup (vup σ 12 14 (((10 * (σ 12 14)) + (rpk σ)) - 48)) 12 13 ((σ 12 13) + 1)) 12 4 ((σ 12 4) + 1)) K
                exact ih (k + 1) 0 _ (by omega) (rrn_go (al2 := 0) h8 hI (tal_iff.mpr (by omega)) (rfr_up (rfr_up (rfr_up (h1) (by decide)) (by decide)) (by decide)) rfl rfl rfl (fun q => by first | rfl | (exfalso; omega)) (fun q => by first | rfl | (exfalso; omega)) (Or.inr ⟨by omega, rfl⟩))
            · refine And.intro (fun (c86 : 2 ≤ (σ 12 13)) => ?_) (fun (c87 : (σ 12 13) < 2) => ?_)
              · refine And.intro (show -2147483648 ≤ ((σ 12 13) + 1) ∧ ((σ 12 13) + 1) ≤ 2147483647 from by omega) ?_
                refine And.intro (show Int.negSucc 2147483647 ≤ ((σ 12 13) + 1) ∧ ((σ 12 13) + 1) ≤ 2147483647 from rgm (by omega)) ?_
                have f88 : 0 ≤ σ 12 4 ∧ σ 12 4 ≤ 940 := zfL B hb (t := 12) (f := 4) (by decide +kernel)
                refine And.intro (show -2147483648 ≤ ((σ 12 4) + 1) ∧ ((σ 12 4) + 1) ≤ 2147483647 from by omega) ?_
                refine And.intro (show 0 ≤ ((σ 12 4) + 1) ∧ ((σ 12 4) + 1) ≤ 940 from by omega) ?_
                show zGL E gJ1 mdT w gm_271 181 [(0, .inr (.inl 12)), (2, .inl sm), (3, .inl 0)] (vup (vup (vup σ 12 17 (vlor (vlsh (σ 12 17) 8) (rpk σ))) 12 13 ((σ 12 13) + 1)) 12 4 ((σ 12 4) + 1)) K
                exact ih (k + 1) 0 _ (by omega) (rrn_go (al2 := 0) h8 hI (tal_iff.mpr (by omega)) (rfr_up (rfr_up (rfr_up (h1) (by decide)) (by decide)) (by decide)) rfl rfl rfl (fun q => by first | rfl | (exfalso; omega)) (fun q => by first | rfl | (exfalso; omega)) (Or.inr ⟨by omega, rfl⟩))
              · have f89 : (-2147483648) ≤ σ 12 14 ∧ σ 12 14 ≤ 2147483647 := zfL B hb (t := 12) (f := 14) (by decide +kernel)
                refine And.intro (show -2147483648 ≤ (10 * (σ 12 14)) ∧ (10 * (σ 12 14)) ≤ 2147483647 from by omega) ?_
                refine And.intro (show -2147483648 ≤ ((10 * (σ 12 14)) + (rpk σ)) ∧ ((10 * (σ 12 14)) + (rpk σ)) ≤ 2147483647 from by omega) ?_
                refine And.intro (show -2147483648 ≤ (((10 * (σ 12 14)) + (rpk σ)) - 48) ∧ (((10 * (σ 12 14)) + (rpk σ)) - 48) ≤ 2147483647 from by omega) ?_
                refine And.intro (show Int.negSucc 2147483647 ≤ (((10 * (σ 12 14)) + (rpk σ)) - 48) ∧ (((10 * (σ 12 14)) + (rpk σ)) - 48) ≤ 2147483647 from rgm (by omega)) ?_
                refine And.intro (show -2147483648 ≤ ((σ 12 13) + 1) ∧ ((σ 12 13) + 1) ≤ 2147483647 from by omega) ?_
                refine And.intro (show Int.negSucc 2147483647 ≤ ((σ 12 13) + 1) ∧ ((σ 12 13) + 1) ≤ 2147483647 from rgm (by omega)) ?_
                have f90 : 0 ≤ σ 12 4 ∧ σ 12 4 ≤ 940 := zfL B hb (t := 12) (f := 4) (by decide +kernel)
                refine And.intro (show -2147483648 ≤ ((σ 12 4) + 1) ∧ ((σ 12 4) + 1) ≤ 2147483647 from by omega) ?_
                refine And.intro (show 0 ≤ ((σ 12 4) + 1) ∧ ((σ 12 4) + 1) ≤ 940 from by omega) ?_
                show zGL E gJ1 mdT w gm_271 181 [(0, .inr (.inl 12)), (2, .inl sm), (3, .inl 0)] (vup (vup (vup (vup σ 12 17 (vlor (vlsh (σ 12 17) 8) (rpk σ))) 12 14 (((10 * (σ 12 14)) + (rpk σ)) - 48)) 12 13 ((σ 12 13) + 1)) 12 4 ((σ 12 4) + 1)) K
                exact ih (k + 1) 0 _ (by omega) (rrn_go (al2 := 0) h8 hI (tal_iff.mpr (by omega)) (rfr_up (rfr_up (rfr_up (rfr_up (h1) (by decide)) (by decide)) (by decide)) (by decide)) rfl rfl rfl (fun q => by first | rfl | (exfalso; omega)) (fun q => by first | rfl | (exfalso; omega)) (Or.inr ⟨by omega, rfl⟩))
          · have f91 : (-2147483648) ≤ σ 12 13 ∧ σ 12 13 ≤ 2147483647 := zfL B hb (t := 12) (f := 13) (by decide +kernel)
            refine And.intro (fun (c92 : 7 ≤ (σ 12 13)) => ?_) (fun (c93 : (σ 12 13) < 7) => ?_)
            · refine And.intro (fun (c94 : 2 ≤ (σ 12 13)) => ?_) (fun (c95 : (σ 12 13) < 2) => ?_)
              · refine And.intro (show -2147483648 ≤ ((σ 12 13) + 1) ∧ ((σ 12 13) + 1) ≤ 2147483647 from by omega) ?_
                refine And.intro (show Int.negSucc 2147483647 ≤ ((σ 12 13) + 1) ∧ ((σ 12 13) + 1) ≤ 2147483647 from rgm (by omega)) ?_
                have f96 : 0 ≤ σ 12 4 ∧ σ 12 4 ≤ 940 := zfL B hb (t := 12) (f := 4) (by decide +kernel)
                refine And.intro (show -2147483648 ≤ ((σ 12 4) + 1) ∧ ((σ 12 4) + 1) ≤ 2147483647 from by omega) ?_
                refine And.intro (show 0 ≤ ((σ 12 4) + 1) ∧ ((σ 12 4) + 1) ≤ 940 from by omega) ?_
                show zGL E gJ1 mdT w gm_271 181 [(0, .inr (.inl 12)), (2, .inl sm), (3, .inl 1)] (vup (vup σ 12 13 ((σ 12 13) + 1)) 12 4 ((σ 12 4) + 1)) K
                exact ih (k + 1) 1 _ (by omega) (rrn_go (al2 := 1) h8 hI (tal_iff.mpr (by omega)) (rfr_up (rfr_up (h1) (by decide)) (by decide)) rfl rfl rfl (fun q => by first | rfl | (exfalso; omega)) (fun q => by first | rfl | (exfalso; omega)) (Or.inl ⟨by omega, by omega, rfl⟩))
              · have f97 : (-2147483648) ≤ σ 12 14 ∧ σ 12 14 ≤ 2147483647 := zfL B hb (t := 12) (f := 14) (by decide +kernel)
                refine And.intro (show -2147483648 ≤ (10 * (σ 12 14)) ∧ (10 * (σ 12 14)) ≤ 2147483647 from by omega) ?_
                refine And.intro (show -2147483648 ≤ ((10 * (σ 12 14)) + (rpk σ)) ∧ ((10 * (σ 12 14)) + (rpk σ)) ≤ 2147483647 from by omega) ?_
                refine And.intro (show -2147483648 ≤ (((10 * (σ 12 14)) + (rpk σ)) - 48) ∧ (((10 * (σ 12 14)) + (rpk σ)) - 48) ≤ 2147483647 from by omega) ?_
                refine And.intro (show Int.negSucc 2147483647 ≤ (((10 * (σ 12 14)) + (rpk σ)) - 48) ∧ (((10 * (σ 12 14)) + (rpk σ)) - 48) ≤ 2147483647 from rgm (by omega)) ?_
                refine And.intro (show -2147483648 ≤ ((σ 12 13) + 1) ∧ ((σ 12 13) + 1) ≤ 2147483647 from by omega) ?_
                refine And.intro (show Int.negSucc 2147483647 ≤ ((σ 12 13) + 1) ∧ ((σ 12 13) + 1) ≤ 2147483647 from rgm (by omega)) ?_
                have f98 : 0 ≤ σ 12 4 ∧ σ 12 4 ≤ 940 := zfL B hb (t := 12) (f := 4) (by decide +kernel)
                refine And.intro (show -2147483648 ≤ ((σ 12 4) + 1) ∧ ((σ 12 4) + 1) ≤ 2147483647 from by omega) ?_
                refine And.intro (show 0 ≤ ((σ 12 4) + 1) ∧ ((σ 12 4) + 1) ≤ 940 from by omega) ?_
                show zGL E gJ1 mdT w gm_271 181 [(0, .inr (.inl 12)), (2, .inl sm), (3, .inl 1)] (vup (vup (vup σ 12 14 (((10 * (σ 12 14)) + (rpk σ)) - 48)) 12 13 ((σ 12 13) + 1)) 12 4 ((σ 12 4) + 1)) K
                exact ih (k + 1) 1 _ (by omega) (rrn_go (al2 := 1) h8 hI (tal_iff.mpr (by omega)) (rfr_up (rfr_up (rfr_up (h1) (by decide)) (by decide)) (by decide)) rfl rfl rfl (fun q => by first | rfl | (exfalso; omega)) (fun q => by first | rfl | (exfalso; omega)) (Or.inl ⟨by omega, by omega, rfl⟩))
            · refine And.intro (fun (c99 : 2 ≤ (σ 12 13)) => ?_) (fun (c100 : (σ 12 13) < 2) => ?_)
              · refine And.intro (show -2147483648 ≤ ((σ 12 13) + 1) ∧ ((σ 12 13) + 1) ≤ 2147483647 from by omega) ?_
                refine And.intro (show Int.negSucc 2147483647 ≤ ((σ 12 13) + 1) ∧ ((σ 12 13) + 1) ≤ 2147483647 from rgm (by omega)) ?_
                have f101 : 0 ≤ σ 12 4 ∧ σ 12 4 ≤ 940 := zfL B hb (t := 12) (f := 4) (by decide +kernel)
                refine And.intro (show -2147483648 ≤ ((σ 12 4) + 1) ∧ ((σ 12 4) + 1) ≤ 2147483647 from by omega) ?_
                refine And.intro (show 0 ≤ ((σ 12 4) + 1) ∧ ((σ 12 4) + 1) ≤ 940 from by omega) ?_
                show zGL E gJ1 mdT w gm_271 181 [(0, .inr (.inl 12)), (2, .inl sm), (3, .inl 1)] (vup (vup (vup σ 12 17 (vlor (vlsh (σ 12 17) 8) (rpk σ))) 12 13 ((σ 12 13) + 1)) 12 4 ((σ 12 4) + 1)) K
                exact ih (k + 1) 1 _ (by omega) (rrn_go (al2 := 1) h8 hI (tal_iff.mpr (by omega)) (rfr_up (rfr_up (rfr_up (h1) (by decide)) (by decide)) (by decide)) rfl rfl rfl (fun q => by first | rfl | (exfalso; omega)) (fun q => by first | rfl | (exfalso; omega)) (Or.inl ⟨by omega, by omega, rfl⟩))
              · have f102 : (-2147483648) ≤ σ 12 14 ∧ σ 12 14 ≤ 2147483647 := zfL B hb (t := 12) (f := 14) (by decide +kernel)
                refine And.intro (show -2147483648 ≤ (10 * (σ 12 14)) ∧ (10 * (σ 12 14)) ≤ 2147483647 from by omega) ?_
                refine And.intro (show -2147483648 ≤ ((10 * (σ 12 14)) + (rpk σ)) ∧ ((10 * (σ 12 14)) + (rpk σ)) ≤ 2147483647 from by omega) ?_
                refine And.intro (show -2147483648 ≤ (((10 * (σ 12 14)) + (rpk σ)) - 48) ∧ (((10 * (σ 12 14)) + (rpk σ)) - 48) ≤ 2147483647 from by omega) ?_
                refine And.intro (show Int.negSucc 2147483647 ≤ (((10 * (σ 12 14)) + (rpk σ)) - 48) ∧ (((10 * (σ 12 14)) + (rpk σ)) - 48) ≤ 2147483647 from rgm (by omega)) ?_
                refine And.intro (show -2147483648 ≤ ((σ 12 13) + 1) ∧ ((σ 12 13) + 1) ≤ 2147483647 from by omega) ?_
                refine And.intro (show Int.negSucc 2147483647 ≤ ((σ 12 13) + 1) ∧ ((σ 12 13) + 1) ≤ 2147483647 from rgm (by omega)) ?_
                have f103 : 0 ≤ σ 12 4 ∧ σ 12 4 ≤ 940 := zfL B hb (t := 12) (f := 4) (by decide +kernel)
                refine And.intro (show -2147483648 ≤ ((σ 12 4) + 1) ∧ ((σ 12 4) + 1) ≤ 2147483647 from by omega) ?_
                refine And.intro (show 0 ≤ ((σ 12 4) + 1) ∧ ((σ 12 4) + 1) ≤ 940 from by omega) ?_
                show zGL E gJ1 mdT w gm_271 181 [(0, .inr (.inl 12)), (2, .inl sm), (3, .inl 1)] (vup (vup (vup (vup σ 12 17 (vlor (vlsh (σ 12 17) 8) (rpk σ))) 12 14 (((10 * (σ 12 14)) + (rpk σ)) - 48)) 12 13 ((σ 12 13) + 1)) 12 4 ((σ 12 4) + 1)) K
                exact ih (k + 1) 1 _ (by omega) (rrn_go (al2 := 1) h8 hI (tal_iff.mpr (by omega)) (rfr_up (rfr_up (rfr_up (rfr_up (h1) (by decide)) (by decide)) (by decide)) (by decide)) rfl rfl rfl (fun q => by first | rfl | (exfalso; omega)) (fun q => by first | rfl | (exfalso; omega)) (Or.inl ⟨by omega, by omega, rfl⟩))
end ZR2
