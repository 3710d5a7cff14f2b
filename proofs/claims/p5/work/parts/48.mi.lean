/-! EXACT WALK: sentence -/
noncomputable section
/-- how deep a row of words is -/
def zdp (R : Int → Int) : Nat → Int
  | 0 => 0
  | i + 1 => zdp R i + (if R (3 * (i : Int)) = 20 then 0 else if R (3 * (i : Int)) = 21 ∨ R (3 * (i : Int)) = 22 then -1 else 1)
def zVP (R : Int → Int) (n : Nat) : Prop := ∀ i : Nat, i < n → (R (3 * (i : Int)) = 20 → 1 ≤ zdp R i) ∧ (R (3 * (i : Int)) = 21 ∨ R (3 * (i : Int)) = 22 → 2 ≤ zdp R i) ∧ 0 ≤ zdp R i ∧ zdp R i ≤ 44
def zj (S : Int → Int) (j : Int) : Prop := S j = 21 ∨ S j = 22
/-- the words so far, and those that wait: so many nots and brackets wait -/
def zIw (R S : Int → Int) (c t o wh u : Int) : Prop := ∃ L N J a : Int, (0 ≤ L ∧ 0 ≤ N ∧ 0 ≤ J ∧ 0 ≤ u) ∧ c = L + N + J ∧ t = a + u ∧ (L + N + u ≤ o ∧ o ≤ 20) ∧ J + a + wh = L ∧ a = (zcn (zj S) t.toNat : Nat) ∧ zdp R c.toNat = L - J ∧ zVP R c.toNat
def zIv (σ : vS) (u : Int) : Prop := zIw (σ 54) (σ 72) (σ 12 46) (σ 12 48) (σ 12 47) (σ 12 50) u
def md268 : aMd := gc_268_0.2.2.2
def zs230 : vSp := fun vs σ K => match vs with
  | [.inr (.inl 12), .inr (.inr _)] => ∀ z : Int, (z = 0 ∨ z = 1) → K (some (.inl z)) σ
  | _ => False
def zs228 : vSp := fun vs σ K => match vs with
  | [.inr (.inl 12), .inl _] => ∀ z : Int, (z = 0 ∨ z = 1) → K (some (.inl z)) σ
  | _ => False
def zs233 : vSp := fun vs σ K => match vs with
  | [.inr (.inl 12)] => ∀ z : Int, (-1 ≤ z ∧ z ≤ 7) → K (some (.inl z)) σ
  | _ => False
def zs207 : vSp := fun vs σ K => match vs with
  | [.inr (.inl 12), .inl a, .inl n] => ((0 ≤ a ∧ a ≤ 6) ∧ (0 ≤ n ∧ n ≤ 12)) ∧ ∀ z : Int, (-1 ≤ z ∧ z ≤ 11) → K (some (.inl z)) σ
  | _ => False
def zfd (σ σ2 : vS) : Prop := (∀ t, ¬ t = 12 → ¬ t = 54 → σ2 t = σ t) ∧ ∀ i : Int, ¬ i = 46 → ¬ i = 48 → ¬ i = 49 → σ2 12 i = σ 12 i
def zs243 : vSp := fun vs σ K => match vs with
  | [.inr (.inl 12)] => ∃ u : Int, (zIv σ u ∧ σ 12 50 = 1) ∧ ∀ (u2 : Int) (σ2 : vS), u2 ≤ u → zIv σ2 u2 → zfd σ σ2 → K none σ2
  | _ => False
def zs231 : vSp := fun vs σ K => match vs with
  | [.inr (.inl 12), .inl x] => ∃ u : Int, (zIv σ u ∧ σ 12 50 = 1) ∧ ∀ σ2 : vS, zIv σ2 u → zfd σ σ2 → (x = 22 → σ2 12 48 ≤ 0 ∨ ¬ zj (σ2 72) (σ2 12 48 - 1)) → K none σ2
  | _ => False
/-- a skip -/
def zs271 (E : zE) (md : aMd) : vSp := fun vs σ K => match vs with
  | [.inr (.inl 12)] => vX σ ∧ amds md md271 = true ∧ ∀ σ2 : vS, vX σ2 → vBd (zso E) gST zuq σ2 → vFm zuq md271 σ σ2 → K none σ2
  | _ => False
end
theorem zdp_eq {R Q : Int → Int} {n : Nat} (h : ∀ j : Int, 0 ≤ j → j < 3 * (n : Int) → Q j = R j) : ∀ i : Nat, i ≤ n → zdp Q i = zdp R i
  | 0, _ => rfl
  | i + 1, hi => by
    show zdp Q i + _ = zdp R i + _
    rw [zdp_eq h i (by omega), h _ (by omega) (by omega)]
theorem zVP_eq {R Q : Int → Int} {n : Nat} (h : ∀ j : Int, 0 ≤ j → j < 3 * (n : Int) → Q j = R j) (hv : zVP R n) : zVP Q n := fun i hi => by
  rw [zdp_eq h i (by omega), h _ (by omega) (by omega)]
  exact hv i hi
theorem zVP_add {R Q : Int → Int} {n : Nat} {x : Int} (h : ∀ j : Int, 0 ≤ j → j < 3 * (n : Int) → Q j = R j) (hx : Q (3 * (n : Int)) = x) (hv : zVP R n) (h1 : x = 20 → 1 ≤ zdp R n) (h2 : x = 21 ∨ x = 22 → 2 ≤ zdp R n) (h3 : 0 ≤ zdp R n ∧ zdp R n ≤ 44) : zVP Q (n + 1) := fun i hi => by
  by_cases e : i = n
  · subst e
    rw [zdp_eq h i (Nat.le_refl _), hx]
    exact ⟨h1, h2, h3⟩
  · exact zVP_eq h hv i (by omega)
theorem zcn_s {p : Int → Prop} {t : Int} (h : 0 ≤ t) : zcn p (t + 1).toNat = zcn p t.toNat + @ite Nat (p t) (Classical.propDecidable _) 1 0 := by
  obtain ⟨n, rfl⟩ := Int.eq_ofNat_of_zero_le h
  rfl
theorem zcn_j {S : Int → Int} {t x : Int} : zcn (zj (ful S t x)) t.toNat = zcn (zj S) t.toNat := zcn_eq _ (fun k a b => by
  unfold zj
  rw [ful_ne (by omega)])
section ZW
variable {R S Q : Int → Int} {c t o wh u x : Int}
theorem zIw_b (h : zIw R S c t o wh u) (hw : 0 ≤ wh) : (0 ≤ u ∧ u ≤ 20) ∧ (0 ≤ c ∧ c ≤ 40) ∧ (0 ≤ t ∧ t ≤ 40) ∧ o ≤ 20 ∧ 0 ≤ o := by
  obtain ⟨L, N, J, a, h1, h2, h3, h4, h5, h6, -, -⟩ := h
  omega
theorem zIw_0 : zIw R S 0 0 0 0 0 := ⟨0, 0, 0, 0, by omega, by omega, by omega, by omega, by omega, rfl, rfl, fun i hi => absurd hi (Nat.not_lt_zero _)⟩
theorem zIw_push (h : zIw R S c t o 0 u) (hx : ¬ (x = 21 ∨ x = 22)) (ho : o + 1 ≤ 20) : zIw R (ful S t x) c (t + 1) (o + 1) 0 (u + 1) := by
  obtain ⟨L, N, J, a, h1, h2, h3, h4, h5, h6, h7, h8⟩ := h
  refine ⟨L, N, J, a, by omega, by omega, by omega, by omega, by omega, ?_, h7, h8⟩
  rw [zcn_s (by omega), zcn_j, if_neg (by unfold zj; rw [ful_at]; exact hx)]
  omega
theorem zIw_op (h : zIw R S c t o 1 u) (hx : x = 21 ∨ x = 22) : zIw R (ful S t x) c (t + 1) o 0 u := by
  obtain ⟨L, N, J, a, h1, h2, h3, h4, h5, h6, h7, h8⟩ := h
  refine ⟨L, N, J, a + 1, by omega, by omega, by omega, by omega, by omega, ?_, h7, h8⟩
  rw [zcn_s (by omega), zcn_j, if_pos (by unfold zj; rw [ful_at]; exact hx)]
  omega
theorem zIw_pop (h : zIw R S c t o wh u) (ht : 0 < t) (hx : ¬ zj S (t - 1)) : zIw R S c (t - 1) o wh (u - 1) := by
  obtain ⟨L, N, J, a, h1, h2, h3, h4, h5, h6, h7, h8⟩ := h
  have e : t = (t - 1) + 1 := by omega
  rw [e, zcn_s (by omega), if_neg hx] at h6
  have := zcn_top (p := zj S) (t - 1).toNat
  refine ⟨L, N, J, a, by omega, by omega, by omega, by omega, by omega, by omega, h7, h8⟩
theorem zIw_leaf (h : zIw R S c t o 0 u) (hR : ∀ j : Int, 0 ≤ j → j < 3 * c → Q j = R j) (hx : Q (3 * c) = x) (x0 : 0 ≤ x ∧ x ≤ 7) (ho : o + 1 ≤ 20) : zIw Q S (c + 1) t (o + 1) 1 u := by
  obtain ⟨L, N, J, a, h1, h2, h3, h4, h5, h6, h7, h8⟩ := h
  have e : (c + 1).toNat = c.toNat + 1 := by omega
  have e2 : ((c.toNat : Nat) : Int) = c := by omega
  refine ⟨L + 1, N, J, a, by omega, by omega, by omega, by omega, by omega, h6, ?_, ?_⟩
  · rw [e]
    show zdp Q c.toNat + _ = _
    rw [zdp_eq (R := R) (n := c.toNat) (by rw [e2]; exact hR) _ (Nat.le_refl _), e2, hx, if_neg (by omega), if_neg (by omega), h7]
    omega
  · rw [e]
    have hx9 : Q (3 * ((c.toNat : Nat) : Int)) = x := by rw [e2]; exact hx
    exact zVP_add (by rw [e2]; exact hR) hx9 h8 (by omega) (by omega) (by rw [h7]; omega)
theorem zIw_not (h : zIw R S c t o 1 u) (ht : 0 < t) (hs : S (t - 1) = 20) (hR : ∀ j : Int, 0 ≤ j → j < 3 * c → Q j = R j) (hx : Q (3 * c) = 20) : zIw Q S (c + 1) (t - 1) o 1 (u - 1) := by
  obtain ⟨L, N, J, a, h1, h2, h3, h4, h5, h6, h7, h8⟩ := h
  have et : t = (t - 1) + 1 := by omega
  rw [et, zcn_s (by omega), if_neg (by unfold zj; rw [hs]; omega)] at h6
  have := zcn_top (p := zj S) (t - 1).toNat
  have e : (c + 1).toNat = c.toNat + 1 := by omega
  have e2 : ((c.toNat : Nat) : Int) = c := by omega
  refine ⟨L, N + 1, J, a, by omega, by omega, by omega, by omega, by omega, by omega, ?_, ?_⟩
  · rw [e]
    show zdp Q c.toNat + _ = _
    rw [zdp_eq (R := R) (n := c.toNat) (by rw [e2]; exact hR) _ (Nat.le_refl _), e2, hx, if_pos rfl, h7]
    omega
  · rw [e]
    have hx9 : Q (3 * ((c.toNat : Nat) : Int)) = 20 := by rw [e2]; exact hx
    exact zVP_add (by rw [e2]; exact hR) hx9 h8 (by rw [h7]; omega) (by omega) (by rw [h7]; omega)
theorem zIw_join (h : zIw R S c t o 1 u) (ht : 0 < t) (hs : S (t - 1) = x) (hx2 : x = 21 ∨ x = 22) (hR : ∀ j : Int, 0 ≤ j → j < 3 * c → Q j = R j) (hx : Q (3 * c) = x) : zIw Q S (c + 1) (t - 1) o 1 u := by
  obtain ⟨L, N, J, a, h1, h2, h3, h4, h5, h6, h7, h8⟩ := h
  have et : t = (t - 1) + 1 := by omega
  rw [et, zcn_s (by omega), if_pos (by unfold zj; rw [hs]; exact hx2)] at h6
  have e : (c + 1).toNat = c.toNat + 1 := by omega
  have e2 : ((c.toNat : Nat) : Int) = c := by omega
  refine ⟨L, N, J + 1, a - 1, by omega, by omega, by omega, by omega, by omega, by omega, ?_, ?_⟩
  · rw [e]
    show zdp Q c.toNat + _ = _
    rw [zdp_eq (R := R) (n := c.toNat) (by rw [e2]; exact hR) _ (Nat.le_refl _), e2, hx, if_neg (by omega), if_pos hx2, h7]
    omega
  · rw [e]
    have hx9 : Q (3 * ((c.toNat : Nat) : Int)) = x := by rw [e2]; exact hx
    exact zVP_add (by rw [e2]; exact hR) hx9 h8 (by omega) (by rw [h7]; omega) (by rw [h7]; omega)
end ZW
/-- three numbers, written -/
theorem ful3_lo {R : Int → Int} {c x y z : Int} : ∀ j : Int, 0 ≤ j → j < 3 * c → ful (ful (ful R (3 * c) x) ((3 * c) + 1) y) ((3 * c) + 2) z j = R j := fun j _ h => by rw [ful_ne (by omega), ful_ne (by omega), ful_ne (by omega)]
theorem ful3_at {R : Int → Int} {c x y z : Int} : ful (ful (ful R (3 * c) x) ((3 * c) + 1) y) ((3 * c) + 2) z (3 * c) = x := by rw [ful_ne (by omega), ful_ne (by omega), ful_at]
theorem vup3 {σ : vS} {a b c x y z : Int} : vup (vup (vup σ 54 a x) 54 b y) 54 c z 54 = ful (ful (ful (σ 54) a x) b y) c z := by rw [vup_f, vup_f, vup_f]
theorem vFm_fl {mods : aMd} {σ σ2 : vS} (h : vFm zuq mods σ σ2) {t f : Nat} (hu : zuq t = true) (hn : (mods.all fun q => bif Nat.beq q.1 t && (Nat.ble q.2.1 f && Nat.blt f q.2.2) then false else true) = true) : σ2 t (f : Int) = σ t (f : Int) := h t f hu (fun q hq hh => by
  have := List.all_eq_true.mp hn q hq
  rw [hh.1, Nat.beq_refl, Nat.ble_eq_true_of_le (by omega), show Nat.blt f q.2.2 = true from Nat.ble_eq_true_of_le (by omega)] at this
  cases this)
section Z9
variable {E : zE} {J : List aJ} {md : aMd} {w : va_W} {σ : vS} {K : vK}
theorem z_271s (B : zB E) (h : zH E gJ1 (gm_271, 4) gc_271_0) : zOK E gJ1 md w 271 (zs271 E md) := by
  intro q hq vs σ K hh
  have e0 : gMT 271 = some (gm_271, 4) := rfl
  rw [e0] at hq
  cases hq
  unfold zs271 at hh
  split at hh
  · obtain ⟨h2, h3, h4⟩ := hh
    refine v_con z_vXh ⟨rfl, rfl⟩ ⟨B.2.2.2.2.2.2.2 52 rfl, B.2.2.2.2.2.2.2 74 rfl⟩ B.2.2.2.2.2.2.1 h ⟨⟨rfl, trivial⟩, h2, h3, fun al hal ret σ2 r1 r2 r3 r4 _ => ?_⟩ (fun al hal f hf af haf t ht => ?_)
    · have hn : al.1 = none := by
        have hal : al ∈ gc_271_0.2.2.1 := hal
        have key : ∀ al ∈ gc_271_0.2.2.1, al.1 = none := by decide
        exact key al hal
      rw [hn] at r1
      cases ret with
      | none => exact h4 σ2 r2 r3 r4
      | some v => exact absurd r1 id
    · have h1 : af ∈ [(0, 11), (0, 4)] := List.mem_of_getElem? haf
      rcases List.mem_cons.mp h1 with rfl | h1
      · have ht : some (Sum.inr (Sum.inl 12) : vV) = some (.inr (.inl t)) := ht
        cases ht
        exact ⟨_, _, rfl, rfl⟩
      · have e := List.mem_singleton.mp h1
        subst e
        have ht : some (Sum.inr (Sum.inl 12) : vV) = some (.inr (.inl t)) := ht
        cases ht
        exact ⟨_, _, rfl, rfl⟩
  · exact absurd hh id
theorem z_230 (B : zB E) : zOK E J md w 230 zs230 := by
  intro q hq vs σ K h
  have e0 : gMT 230 = some (gm_230, 3) := rfl
  rw [e0] at hq
  cases hq
  unfold zs230 at h
  split at h
  · refine zbd (fun hb => zgo B zS_nil [] [] (fun _ => false) (by decide +kernel) ?_)
    have f1 : 0 ≤ σ 12 11 ∧ σ 12 11 ≤ 4 := zf B hb (t := 12) (f := 11) (by decide +kernel)
    refine And.intro (fun (c2 : ¬ (σ 12 11) = 1) => ?_) (fun (c3 : (σ 12 11) = 1) => ?_)
    · refine And.intro (show 0 ≤ 0 ∧ 0 ≤ 1 from by omega) ?_
      show K (some (.inl 0)) σ
      exact h _ (by omega)
    · refine fun (z4 : Int) => ?_
      refine And.intro (fun (c5 : ¬ z4 = 0) => ?_) (fun (c6 : z4 = 0) => ?_)
      · refine And.intro (show 0 ≤ 0 ∧ 0 ≤ 1 from by omega) ?_
        show K (some (.inl 0)) σ
        exact h _ (by omega)
      · refine And.intro (show 0 ≤ 1 ∧ 1 ≤ 1 from by omega) ?_
        show K (some (.inl 1)) σ
        exact h _ (by omega)
  · exact absurd h id
theorem z_228 (B : zB E) : zOK E J md w 228 zs228 := by
  intro q hq vs σ K h
  have e0 : gMT 228 = some (gm_228, 2) := rfl
  rw [e0] at hq
  cases hq
  unfold zs228 at h
  split at h
  · rename_i c
    refine zbd (fun hb => zgo B zS_nil [] [] (fun _ => false) (by decide +kernel) ?_)
    have f1 : 0 ≤ σ 12 11 ∧ σ 12 11 ≤ 4 := zf B hb (t := 12) (f := 11) (by decide +kernel)
    refine And.intro (fun (c2 : ¬ (σ 12 11) = 3) => ?_) (fun (c3 : (σ 12 11) = 3) => ?_)
    · refine And.intro (show 0 ≤ 0 ∧ 0 ≤ 1 from by omega) ?_
      show K (some (.inl 0)) σ
      exact h _ (by omega)
    · have f4 : (-2147483648) ≤ σ 12 14 ∧ σ 12 14 ≤ 2147483647 := zf B hb (t := 12) (f := 14) (by decide +kernel)
      refine And.intro (fun (c5 : ¬ (σ 12 14) = c) => ?_) (fun (c6 : (σ 12 14) = c) => ?_)
      · refine And.intro (show 0 ≤ 0 ∧ 0 ≤ 1 from by omega) ?_
        show K (some (.inl 0)) σ
        exact h _ (by omega)
      · refine And.intro (show 0 ≤ 1 ∧ 1 ≤ 1 from by omega) ?_
        show K (some (.inl 1)) σ
        exact h _ (by omega)
  · exact absurd h id
theorem z_233 (B : zB E) : zOK E J md w 233 zs233 := by
  intro q hq vs σ K h
  have e0 : gMT 233 = some (gm_233, 1) := rfl
  rw [e0] at hq
  cases hq
  unfold zs233 at h
  split at h
  · refine zgo B (zS_cons (z_230 B) zS_nil) [] [] (fun _ => false) (by decide +kernel) ?_
    refine fun (z1 : Int) (h2 : z1 = 0 ∨ z1 = 1) => ?_
    rcases h2 with rfl | rfl
    · refine And.intro (fun _ => ?_) (fun (q : ¬ 0 = 0) => absurd q (by decide))
      refine fun (z3 : Int) (h4 : z3 = 0 ∨ z3 = 1) => ?_
      rcases h4 with rfl | rfl
      · refine And.intro (fun _ => ?_) (fun (q : ¬ 0 = 0) => absurd q (by decide))
        refine fun (z5 : Int) (h6 : z5 = 0 ∨ z5 = 1) => ?_
        rcases h6 with rfl | rfl
        · refine And.intro (fun _ => ?_) (fun (q : ¬ 0 = 0) => absurd q (by decide))
          refine fun (z7 : Int) (h8 : z7 = 0 ∨ z7 = 1) => ?_
          rcases h8 with rfl | rfl
          · refine And.intro (fun _ => ?_) (fun (q : ¬ 0 = 0) => absurd q (by decide))
            refine fun (z9 : Int) (h10 : z9 = 0 ∨ z9 = 1) => ?_
            rcases h10 with rfl | rfl
            · refine And.intro (fun _ => ?_) (fun (q : ¬ 0 = 0) => absurd q (by decide))
              refine fun (z11 : Int) (h12 : z11 = 0 ∨ z11 = 1) => ?_
              rcases h12 with rfl | rfl
              · refine And.intro (fun _ => ?_) (fun (q : ¬ 0 = 0) => absurd q (by decide))
                refine fun (z13 : Int) (h14 : z13 = 0 ∨ z13 = 1) => ?_
                rcases h14 with rfl | rfl
                · refine And.intro (fun _ => ?_) (fun (q : ¬ 0 = 0) => absurd q (by decide))
                  refine fun (z15 : Int) (h16 : z15 = 0 ∨ z15 = 1) => ?_
                  rcases h16 with rfl | rfl
                  · refine And.intro (fun _ => ?_) (fun (q : ¬ 0 = 0) => absurd q (by decide))
                    show K (some (.inl (-1))) σ
                    exact h _ (by omega)
                  · refine And.intro (fun (q : 1 = 0) => absurd q (by decide)) (fun _ => ?_)
                    show K (some (.inl 7)) σ
                    exact h _ (by omega)
                · refine And.intro (fun (q : 1 = 0) => absurd q (by decide)) (fun _ => ?_)
                  show K (some (.inl 6)) σ
                  exact h _ (by omega)
              · refine And.intro (fun (q : 1 = 0) => absurd q (by decide)) (fun _ => ?_)
                show K (some (.inl 5)) σ
                exact h _ (by omega)
            · refine And.intro (fun (q : 1 = 0) => absurd q (by decide)) (fun _ => ?_)
              show K (some (.inl 4)) σ
              exact h _ (by omega)
          · refine And.intro (fun (q : 1 = 0) => absurd q (by decide)) (fun _ => ?_)
            show K (some (.inl 3)) σ
            exact h _ (by omega)
        · refine And.intro (fun (q : 1 = 0) => absurd q (by decide)) (fun _ => ?_)
          show K (some (.inl 2)) σ
          exact h _ (by omega)
      · refine And.intro (fun (q : 1 = 0) => absurd q (by decide)) (fun _ => ?_)
        show K (some (.inl 1)) σ
        exact h _ (by omega)
    · refine And.intro (fun (q : 1 = 0) => absurd q (by decide)) (fun _ => ?_)
      show K (some (.inl 0)) σ
      exact h _ (by omega)
  · exact absurd h id
theorem z_fin (B : zB E) {a n : Int} (ha : 0 ≤ a ∧ a ≤ 6) (hn : 0 ≤ n ∧ n ≤ 12) (hK : ∀ z : Int, (-1 ≤ z ∧ z ≤ 11) → K (some (.inl z)) σ) : ∀ (m : Nat) (k : Int), n - k < (m : Int) → 0 ≤ k → k ≤ n → zG E J md w gm_207 2 [(0, .inr (.inl 12)), (1, .inl a), (2, .inl n), (3, .inl k)] σ K := by
  intro m
  induction m with
  | zero => intro k h; omega
  | succ m ih =>
    intro k hm h0 h1
    refine zgo B zS_nil [] [(2, [0, 1, 2, 3])] (fun _ => true) (by decide +kernel) ?_
    refine And.intro (fun (c1 : n ≤ k) => ?_) (fun (c2 : k < n) => ?_)
    · show K (some (.inl (-1))) σ
      exact hK _ (by omega)
    · refine And.intro (show -2147483648 ≤ (a + k) ∧ (a + k) ≤ 2147483647 from by omega) ?_
      refine And.intro (show 0 ≤ (a + k) ∧ (a + k) < 48 from by omega) ?_
      refine fun (z3 : Int) => ?_
      refine And.intro (fun (c4 : ¬ z3 = 0) => ?_) (fun (c5 : z3 = 0) => ?_)
      · refine And.intro (show -2147483648 ≤ (k + 1) ∧ (k + 1) ≤ 2147483647 from by omega) ?_
        show zG E J md w gm_207 2 [(0, .inr (.inl 12)), (1, .inl a), (2, .inl n), (3, .inl (k + 1))] σ K
        exact ih (k + 1) (by omega) (by omega) (by omega)
      · show K (some (.inl k)) σ
        exact hK _ (by omega)
theorem z_207 (B : zB E) : zOK E J md w 207 zs207 := by
  intro q hq vs σ K h
  have e0 : gMT 207 = some (gm_207, 4) := rfl
  rw [e0] at hq
  cases hq
  unfold zs207 at h
  split at h
  · rename_i a n
    refine zgo B zS_nil [] [(2, [0, 1, 2, 3])] (fun _ => true) (by decide +kernel) ?_
    exact z_fin B h.1.1 h.1.2 h.2 13 0 (by omega) (by omega) (by omega)
  · exact absurd h id
theorem zfd_refl : zfd σ σ := ⟨fun _ _ _ => rfl, fun _ _ _ _ => rfl⟩
theorem zfd_up {σ0 : vS} (h : zfd σ0 σ) {a b d x y c p q r : Int} : zfd σ0 (vup (vup (vup (vup (vup (vup σ 12 48 a) 12 49 b) 54 c x) 54 d y) 54 p q) 12 46 r) := ⟨fun t h1 h2 => by rw [vup_fr h1, vup_fr h2, vup_fr h2, vup_fr h2, vup_fr h1, vup_fr h1]; exact h.1 t h1 h2, fun i h1 h2 h3 => by
  rw [← h.2 i h1 h2 h3]
  show vup _ 12 46 r 12 i = _
  rw [vup_ne _ _ (fun q => h1 q.2)]
  show vup (vup σ 12 48 a) 12 49 b 12 i = _
  rw [vup_ne _ _ (fun q => h3 q.2), vup_ne _ _ (fun q => h2 q.2)]⟩
theorem zfd_up2 {σ0 : vS} (h : zfd σ0 σ) {a d x y c p q r : Int} : zfd σ0 (vup (vup (vup (vup (vup σ 12 48 a) 54 c x) 54 d y) 54 p q) 12 46 r) := ⟨fun t h1 h2 => by rw [vup_fr h1, vup_fr h2, vup_fr h2, vup_fr h2, vup_fr h1]; exact h.1 t h1 h2, fun i h1 h2 h3 => by
  rw [← h.2 i h1 h2 h3]
  show vup _ 12 46 r 12 i = _
  rw [vup_ne _ _ (fun q => h1 q.2)]
  show vup σ 12 48 a 12 i = _
  rw [vup_ne _ _ (fun q => h2 q.2)]⟩
theorem z_not1 (B : zB E) {σ0 : vS} {u0 : Int} (hK : ∀ (u2 : Int) (σ2 : vS), u2 ≤ u0 → zIv σ2 u2 → zfd σ0 σ2 → K none σ2) : ∀ (m : Nat) (σ : vS) (u : Int), σ 12 48 < (m : Int) → u ≤ u0 → zIv σ u → σ 12 50 = 1 → zfd σ0 σ → zG E gJ1 md268 w gm_243 0 [(0, .inr (.inl 12))] σ K := by
  intro m
  induction m with
  | zero =>
    intro σ u h _ hI hw _
    have := zIw_b hI (by omega)
    omega
  | succ m ih =>
    intro σ u hm hu hI hw hf
    have hbd := zIw_b hI (by omega)
    refine zbd (fun hb => zgo B zS_nil [39] [(0, [0])] (fun m => Nat.beq m.2.2.2.2.1 120) (by decide +kernel) ?_)
    have f1 : 0 ≤ σ 12 48 ∧ σ 12 48 ≤ 45 := zf B hb (t := 12) (f := 48) (by decide +kernel)
    refine And.intro (fun (c2 : (σ 12 48) ≤ 0) => ?_) (fun (c3 : 0 < (σ 12 48)) => ?_)
    · show K none σ
      exact hK _ _ hu hI hf
    · refine And.intro (show -2147483648 ≤ ((σ 12 48) - 1) ∧ ((σ 12 48) - 1) ≤ 2147483647 from by omega) ?_
      refine And.intro (show 0 ≤ ((σ 12 48) - 1) ∧ ((σ 12 48) - 1) < 45 from by omega) ?_
      have f4 : (-2147483648) ≤ σ 72 ((σ 12 48) - 1) ∧ σ 72 ((σ 12 48) - 1) ≤ 2147483647 := zb B hb (t := 72) (a := 0) (n := 45) (i := (σ 12 48) - 1) (by decide +kernel) (by omega) (by omega)
      refine And.intro (fun (c5 : ¬ (σ 72 ((σ 12 48) - 1)) = 20) => ?_) (fun (c6 : (σ 72 ((σ 12 48) - 1)) = 20) => ?_)
      · show K none σ
        exact hK _ _ hu hI hf
      · refine And.intro (show -2147483648 ≤ ((σ 12 48) - 1) ∧ ((σ 12 48) - 1) ≤ 2147483647 from by omega) ?_
        refine And.intro (show 0 ≤ ((σ 12 48) - 1) ∧ ((σ 12 48) - 1) ≤ 45 from by omega) ?_
        have f7 : (-2147483648) ≤ σ 12 49 ∧ σ 12 49 ≤ 2147483647 := zf B hb (t := 12) (f := 49) (by decide +kernel)
        refine fun (z8 : Int) (h9 : -2147483648 ≤ z8 ∧ z8 ≤ 2147483647) (e10 : z8 = vsub (σ 12 49) 1) => ?_
        refine And.intro (show Int.negSucc 2147483647 ≤ z8 ∧ z8 ≤ 2147483647 from rgm (by omega)) ?_
        have f11 : 0 ≤ σ 12 46 ∧ σ 12 46 ≤ 53 := zf B hb (t := 12) (f := 46) (by decide +kernel)
        refine And.intro (show -2147483648 ≤ (3 * (σ 12 46)) ∧ (3 * (σ 12 46)) ≤ 2147483647 from by omega) ?_
        refine And.intro (show 0 ≤ (3 * (σ 12 46)) ∧ (3 * (σ 12 46)) < 160 from by omega) ?_
        refine And.intro (show Int.negSucc 2147483647 ≤ 20 ∧ 20 ≤ 2147483647 from rgm (by omega)) ?_
        refine And.intro (show -2147483648 ≤ (3 * (σ 12 46)) ∧ (3 * (σ 12 46)) ≤ 2147483647 from by omega) ?_
        refine And.intro (show -2147483648 ≤ ((3 * (σ 12 46)) + 1) ∧ ((3 * (σ 12 46)) + 1) ≤ 2147483647 from by omega) ?_
        refine And.intro (show 0 ≤ ((3 * (σ 12 46)) + 1) ∧ ((3 * (σ 12 46)) + 1) < 160 from by omega) ?_
        refine And.intro (show Int.negSucc 2147483647 ≤ 0 ∧ 0 ≤ 2147483647 from rgm (by omega)) ?_
        refine And.intro (show -2147483648 ≤ (3 * (σ 12 46)) ∧ (3 * (σ 12 46)) ≤ 2147483647 from by omega) ?_
        refine And.intro (show -2147483648 ≤ ((3 * (σ 12 46)) + 2) ∧ ((3 * (σ 12 46)) + 2) ≤ 2147483647 from by omega) ?_
        refine And.intro (show 0 ≤ ((3 * (σ 12 46)) + 2) ∧ ((3 * (σ 12 46)) + 2) < 160 from by omega) ?_
        refine And.intro (show Int.negSucc 2147483647 ≤ 0 ∧ 0 ≤ 2147483647 from rgm (by omega)) ?_
        refine And.intro (show -2147483648 ≤ ((σ 12 46) + 1) ∧ ((σ 12 46) + 1) ≤ 2147483647 from by omega) ?_
        refine And.intro (show 0 ≤ ((σ 12 46) + 1) ∧ ((σ 12 46) + 1) ≤ 53 from by omega) ?_
        show zG E gJ1 md268 w gm_243 0 [(0, .inr (.inl 12))] (vup (vup (vup (vup (vup (vup σ 12 48 ((σ 12 48) - 1)) 12 49 z8) 54 (3 * (σ 12 46)) 20) 54 ((3 * (σ 12 46)) + 1) 0) 54 ((3 * (σ 12 46)) + 2) 0) 12 46 ((σ 12 46) + 1)) K
        have hI2 : zIv (vup (vup (vup (vup (vup (vup σ 12 48 ((σ 12 48) - 1)) 12 49 z8) 54 (3 * (σ 12 46)) 20) 54 ((3 * (σ 12 46)) + 1) 0) 54 ((3 * (σ 12 46)) + 2) 0) 12 46 ((σ 12 46) + 1)) (u - 1) := by
          show zIw ((vup (vup (vup (vup (vup (vup σ 12 48 ((σ 12 48) - 1)) 12 49 z8) 54 (3 * (σ 12 46)) 20) 54 ((3 * (σ 12 46)) + 1) 0) 54 ((3 * (σ 12 46)) + 2) 0) 12 46 ((σ 12 46) + 1)) 54) (σ 72) (σ 12 46 + 1) (σ 12 48 - 1) (σ 12 47) (σ 12 50) _
          rw [hw]
          rw [show (vup (vup (vup (vup (vup (vup σ 12 48 ((σ 12 48) - 1)) 12 49 z8) 54 (3 * (σ 12 46)) 20) 54 ((3 * (σ 12 46)) + 1) 0) 54 ((3 * (σ 12 46)) + 2) 0) 12 46 ((σ 12 46) + 1)) 54 = ful (ful (ful (σ 54) (3 * (σ 12 46)) 20) ((3 * (σ 12 46)) + 1) 0) ((3 * (σ 12 46)) + 2) 0 from vup3]
          have hI := hI
          unfold zIv at hI
          rw [hw] at hI
          exact zIw_not hI (by omega) (by assumption) ful3_lo ful3_at
        exact ih _ (u - 1) (show σ 12 48 - 1 < (m : Int) from by omega) (by omega) hI2 (show σ 12 50 = 1 from hw) (zfd_up hf)
theorem z_243 (B : zB E) : zOK E gJ1 md268 w 243 zs243 := by
  intro q hq vs σ K h
  have e0 : gMT 243 = some (gm_243, 1) := rfl
  rw [e0] at hq
  cases hq
  unfold zs243 at h
  split at h
  · obtain ⟨u, ⟨h1, h2⟩, h3⟩ := h
    have := zIw_b h1 (by omega)
    exact z_not1 B h3 41 σ u (by omega) (Int.le_refl _) h1 h2 zfd_refl
  · exact absurd h id
theorem z_joi1 (B : zB E) {σ0 : vS} {u x : Int} (hK : ∀ σ2 : vS, zIv σ2 u → zfd σ0 σ2 → (x = 22 → σ2 12 48 ≤ 0 ∨ ¬ zj (σ2 72) (σ2 12 48 - 1)) → K none σ2) : ∀ (m : Nat) (σ : vS), σ 12 48 < (m : Int) → zIv σ u → σ 12 50 = 1 → zfd σ0 σ → zG E gJ1 md268 w gm_231 0 [(0, .inr (.inl 12)), (1, .inl x)] σ K := by
  intro m
  induction m with
  | zero =>
    intro σ h hI hw _
    have := zIw_b hI (by omega)
    omega
  | succ m ih =>
    intro σ hm hI hw hf
    have hbd := zIw_b hI (by omega)
    refine zbd (fun hb => zgo B zS_nil [] [(0, [0, 1])] (fun m => Nat.beq m.2.2.2.2.1 120) (by decide +kernel) ?_)
    have f1 : 0 ≤ σ 12 48 ∧ σ 12 48 ≤ 45 := zf B hb (t := 12) (f := 48) (by decide +kernel)
    refine And.intro (fun (c2 : (σ 12 48) ≤ 0) => ?_) (fun (c3 : 0 < (σ 12 48)) => ?_)
    · show K none σ
      exact hK _ hI hf (fun e => by first | (left; omega) | (right; unfold zj; omega) | (exfalso; omega))
    · refine And.intro (show -2147483648 ≤ ((σ 12 48) - 1) ∧ ((σ 12 48) - 1) ≤ 2147483647 from by omega) ?_
      refine And.intro (show 0 ≤ ((σ 12 48) - 1) ∧ ((σ 12 48) - 1) < 45 from by omega) ?_
      have f4 : (-2147483648) ≤ σ 72 ((σ 12 48) - 1) ∧ σ 72 ((σ 12 48) - 1) ≤ 2147483647 := zb B hb (t := 72) (a := 0) (n := 45) (i := (σ 12 48) - 1) (by decide +kernel) (by omega) (by omega)
      refine And.intro (fun (c5 : (σ 72 ((σ 12 48) - 1)) = 21) => ?_) (fun (c6 : ¬ (σ 72 ((σ 12 48) - 1)) = 21) => ?_)
      · refine And.intro (show -2147483648 ≤ ((σ 12 48) - 1) ∧ ((σ 12 48) - 1) ≤ 2147483647 from by omega) ?_
        refine And.intro (show 0 ≤ ((σ 12 48) - 1) ∧ ((σ 12 48) - 1) ≤ 45 from by omega) ?_
        refine And.intro (show 0 ≤ ((σ 12 48) - 1) ∧ ((σ 12 48) - 1) < 45 from by omega) ?_
        have f7 : 0 ≤ σ 12 46 ∧ σ 12 46 ≤ 53 := zf B hb (t := 12) (f := 46) (by decide +kernel)
        refine And.intro (show -2147483648 ≤ (3 * (σ 12 46)) ∧ (3 * (σ 12 46)) ≤ 2147483647 from by omega) ?_
        refine And.intro (show 0 ≤ (3 * (σ 12 46)) ∧ (3 * (σ 12 46)) < 160 from by omega) ?_
        refine And.intro (show Int.negSucc 2147483647 ≤ (σ 72 ((σ 12 48) - 1)) ∧ (σ 72 ((σ 12 48) - 1)) ≤ 2147483647 from rgm (by omega)) ?_
        refine And.intro (show -2147483648 ≤ (3 * (σ 12 46)) ∧ (3 * (σ 12 46)) ≤ 2147483647 from by omega) ?_
        refine And.intro (show -2147483648 ≤ ((3 * (σ 12 46)) + 1) ∧ ((3 * (σ 12 46)) + 1) ≤ 2147483647 from by omega) ?_
        refine And.intro (show 0 ≤ ((3 * (σ 12 46)) + 1) ∧ ((3 * (σ 12 46)) + 1) < 160 from by omega) ?_
        refine And.intro (show Int.negSucc 2147483647 ≤ 0 ∧ 0 ≤ 2147483647 from rgm (by omega)) ?_
        refine And.intro (show -2147483648 ≤ (3 * (σ 12 46)) ∧ (3 * (σ 12 46)) ≤ 2147483647 from by omega) ?_
        refine And.intro (show -2147483648 ≤ ((3 * (σ 12 46)) + 2) ∧ ((3 * (σ 12 46)) + 2) ≤ 2147483647 from by omega) ?_
        refine And.intro (show 0 ≤ ((3 * (σ 12 46)) + 2) ∧ ((3 * (σ 12 46)) + 2) < 160 from by omega) ?_
        refine And.intro (show Int.negSucc 2147483647 ≤ 0 ∧ 0 ≤ 2147483647 from rgm (by omega)) ?_
        refine And.intro (show -2147483648 ≤ ((σ 12 46) + 1) ∧ ((σ 12 46) + 1) ≤ 2147483647 from by omega) ?_
        refine And.intro (show 0 ≤ ((σ 12 46) + 1) ∧ ((σ 12 46) + 1) ≤ 53 from by omega) ?_
        show zG E gJ1 md268 w gm_231 0 [(0, .inr (.inl 12)), (1, .inl x)] (vup (vup (vup (vup (vup σ 12 48 ((σ 12 48) - 1)) 54 (3 * (σ 12 46)) (σ 72 ((σ 12 48) - 1))) 54 ((3 * (σ 12 46)) + 1) 0) 54 ((3 * (σ 12 46)) + 2) 0) 12 46 ((σ 12 46) + 1)) K
        have hI2 : zIv (vup (vup (vup (vup (vup σ 12 48 ((σ 12 48) - 1)) 54 (3 * (σ 12 46)) (σ 72 ((σ 12 48) - 1))) 54 ((3 * (σ 12 46)) + 1) 0) 54 ((3 * (σ 12 46)) + 2) 0) 12 46 ((σ 12 46) + 1)) u := by
          show zIw ((vup (vup (vup (vup (vup σ 12 48 ((σ 12 48) - 1)) 54 (3 * (σ 12 46)) (σ 72 ((σ 12 48) - 1))) 54 ((3 * (σ 12 46)) + 1) 0) 54 ((3 * (σ 12 46)) + 2) 0) 12 46 ((σ 12 46) + 1)) 54) (σ 72) (σ 12 46 + 1) (σ 12 48 - 1) (σ 12 47) (σ 12 50) _
          rw [hw]
          rw [show (vup (vup (vup (vup (vup σ 12 48 ((σ 12 48) - 1)) 54 (3 * (σ 12 46)) (σ 72 ((σ 12 48) - 1))) 54 ((3 * (σ 12 46)) + 1) 0) 54 ((3 * (σ 12 46)) + 2) 0) 12 46 ((σ 12 46) + 1)) 54 = ful (ful (ful (σ 54) (3 * (σ 12 46)) (σ 72 ((σ 12 48) - 1))) ((3 * (σ 12 46)) + 1) 0) ((3 * (σ 12 46)) + 2) 0 from vup3]
          have hI := hI
          unfold zIv at hI
          rw [hw] at hI
          exact zIw_join hI (by omega) (by first | assumption | rfl) (by first | (left; assumption) | (right; assumption)) ful3_lo ful3_at
        exact ih _ (show σ 12 48 - 1 < (m : Int) from by omega) hI2 (show σ 12 50 = 1 from hw) (zfd_up2 hf)
      · refine And.intro (show -2147483648 ≤ ((σ 12 48) - 1) ∧ ((σ 12 48) - 1) ≤ 2147483647 from by omega) ?_
        refine And.intro (show 0 ≤ ((σ 12 48) - 1) ∧ ((σ 12 48) - 1) < 45 from by omega) ?_
        refine And.intro (fun (c8 : ¬ (σ 72 ((σ 12 48) - 1)) = 22) => ?_) (fun (c9 : (σ 72 ((σ 12 48) - 1)) = 22) => ?_)
        · show K none σ
          exact hK _ hI hf (fun e => by first | (left; omega) | (right; unfold zj; omega) | (exfalso; omega))
        · refine And.intro (fun (c10 : ¬ x = 22) => ?_) (fun (c11 : x = 22) => ?_)
          · show K none σ
            exact hK _ hI hf (fun e => by first | (left; omega) | (right; unfold zj; omega) | (exfalso; omega))
          · refine And.intro (show -2147483648 ≤ ((σ 12 48) - 1) ∧ ((σ 12 48) - 1) ≤ 2147483647 from by omega) ?_
            refine And.intro (show 0 ≤ ((σ 12 48) - 1) ∧ ((σ 12 48) - 1) ≤ 45 from by omega) ?_
            refine And.intro (show 0 ≤ ((σ 12 48) - 1) ∧ ((σ 12 48) - 1) < 45 from by omega) ?_
            have f12 : 0 ≤ σ 12 46 ∧ σ 12 46 ≤ 53 := zf B hb (t := 12) (f := 46) (by decide +kernel)
            refine And.intro (show -2147483648 ≤ (3 * (σ 12 46)) ∧ (3 * (σ 12 46)) ≤ 2147483647 from by omega) ?_
            refine And.intro (show 0 ≤ (3 * (σ 12 46)) ∧ (3 * (σ 12 46)) < 160 from by omega) ?_
            refine And.intro (show Int.negSucc 2147483647 ≤ (σ 72 ((σ 12 48) - 1)) ∧ (σ 72 ((σ 12 48) - 1)) ≤ 2147483647 from rgm (by omega)) ?_
            refine And.intro (show -2147483648 ≤ (3 * (σ 12 46)) ∧ (3 * (σ 12 46)) ≤ 2147483647 from by omega) ?_
            refine And.intro (show -2147483648 ≤ ((3 * (σ 12 46)) + 1) ∧ ((3 * (σ 12 46)) + 1) ≤ 2147483647 from by omega) ?_
            refine And.intro (show 0 ≤ ((3 * (σ 12 46)) + 1) ∧ ((3 * (σ 12 46)) + 1) < 160 from by omega) ?_
            refine And.intro (show Int.negSucc 2147483647 ≤ 0 ∧ 0 ≤ 2147483647 from rgm (by omega)) ?_
            refine And.intro (show -2147483648 ≤ (3 * (σ 12 46)) ∧ (3 * (σ 12 46)) ≤ 2147483647 from by omega) ?_
            refine And.intro (show -2147483648 ≤ ((3 * (σ 12 46)) + 2) ∧ ((3 * (σ 12 46)) + 2) ≤ 2147483647 from by omega) ?_
            refine And.intro (show 0 ≤ ((3 * (σ 12 46)) + 2) ∧ ((3 * (σ 12 46)) + 2) < 160 from by omega) ?_
            refine And.intro (show Int.negSucc 2147483647 ≤ 0 ∧ 0 ≤ 2147483647 from rgm (by omega)) ?_
            refine And.intro (show -2147483648 ≤ ((σ 12 46) + 1) ∧ ((σ 12 46) + 1) ≤ 2147483647 from by omega) ?_
            refine And.intro (show 0 ≤ ((σ 12 46) + 1) ∧ ((σ 12 46) + 1) ≤ 53 from by omega) ?_
            show zG E gJ1 md268 w gm_231 0 [(0, .inr (.inl 12)), (1, .inl x)] (vup (vup (vup (vup (vup σ 12 48 ((σ 12 48) - 1)) 54 (3 * (σ 12 46)) (σ 72 ((σ 12 48) - 1))) 54 ((3 * (σ 12 46)) + 1) 0) 54 ((3 * (σ 12 46)) + 2) 0) 12 46 ((σ 12 46) + 1)) K
            have hI2 : zIv (vup (vup (vup (vup (vup σ 12 48 ((σ 12 48) - 1)) 54 (3 * (σ 12 46)) (σ 72 ((σ 12 48) - 1))) 54 ((3 * (σ 12 46)) + 1) 0) 54 ((3 * (σ 12 46)) + 2) 0) 12 46 ((σ 12 46) + 1)) u := by
              show zIw ((vup (vup (vup (vup (vup σ 12 48 ((σ 12 48) - 1)) 54 (3 * (σ 12 46)) (σ 72 ((σ 12 48) - 1))) 54 ((3 * (σ 12 46)) + 1) 0) 54 ((3 * (σ 12 46)) + 2) 0) 12 46 ((σ 12 46) + 1)) 54) (σ 72) (σ 12 46 + 1) (σ 12 48 - 1) (σ 12 47) (σ 12 50) _
              rw [hw]
              rw [show (vup (vup (vup (vup (vup σ 12 48 ((σ 12 48) - 1)) 54 (3 * (σ 12 46)) (σ 72 ((σ 12 48) - 1))) 54 ((3 * (σ 12 46)) + 1) 0) 54 ((3 * (σ 12 46)) + 2) 0) 12 46 ((σ 12 46) + 1)) 54 = ful (ful (ful (σ 54) (3 * (σ 12 46)) (σ 72 ((σ 12 48) - 1))) ((3 * (σ 12 46)) + 1) 0) ((3 * (σ 12 46)) + 2) 0 from vup3]
              have hI := hI
              unfold zIv at hI
              rw [hw] at hI
              exact zIw_join hI (by omega) (by first | assumption | rfl) (by first | (left; assumption) | (right; assumption)) ful3_lo ful3_at
            exact ih _ (show σ 12 48 - 1 < (m : Int) from by omega) hI2 (show σ 12 50 = 1 from hw) (zfd_up2 hf)
theorem z_231 (B : zB E) : zOK E gJ1 md268 w 231 zs231 := by
  intro q hq vs σ K h
  have e0 : gMT 231 = some (gm_231, 2) := rfl
  rw [e0] at hq
  cases hq
  unfold zs231 at h
  split at h
  · obtain ⟨u, ⟨h1, h2⟩, h3⟩ := h
    have := zIw_b h1 (by omega)
    exact z_joi1 B h3 41 σ (by omega) h1 h2 zfd_refl
  · exact absurd h id
end Z9
