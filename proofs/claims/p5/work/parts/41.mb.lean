/-! EXACT WALKS: canEnter, spreads, wayOf -/
noncomputable section
def zfr (ts : List Nat) (σ σ2 : vS) : Prop := ∀ t, ¬ t ∈ ts → σ2 t = σ t
def ful (f : Int → Int) (i x : Int) : Int → Int := fun j => if j = i then x else f j
/-- one may enter a room -/
def zen (s : Int → Int) (q o : Int) : Prop := tb (s 181) o = false ∧ (s (185 + o) - 1 < 0 ∨ s (185 + o) - 1 = q ∨ tb (s (203 + (s (185 + o) - 1))) q = true)
def zadj (s : Int → Int) (q r o : Int) : Prop := tb (zbF s r) o = true ∧ zen s q o
def zs190 : vSp := fun vs σ K => match vs with
  | [.inr (.inl 12), .inl q, .inl o] => ((0 ≤ q ∧ q ≤ 5) ∧ (0 ≤ o ∧ o ≤ 11)) ∧ ∀ z : Int, ((z = 1 ∧ zen (σ 52) q o) ∨ (z = 0 ∧ ¬ zen (σ 52) q o)) → K (some (.inl z)) σ
  | _ => False
/-- from where one comes in so many steps -/
def zR (s : Int → Int) (q to : Int) : Nat → Int → Prop
  | 0, r => r = to
  | k + 1, r => zR s q to k r ∨ ∃ o : Int, 0 ≤ o ∧ o < s 2 ∧ zadj s q r o ∧ zR s q to k o
def zcn (p : Int → Prop) : Nat → Nat
  | 0 => 0
  | n + 1 => zcn p n + @ite Nat (p (n : Int)) (Classical.propDecidable _) 1 0
def zI (s f : Int → Int) (q to : Int) : Prop := (∀ r : Int, 0 ≤ r → r < 12 → 0 ≤ f r ∧ f r ≤ 100 ∧ (f r < 100 → zR s q to (f r).toNat r)) ∧ f to = 0 ∧ ∀ r : Int, s 2 ≤ r → r < 12 → ¬ r = to → f r = 100
def zC (s f : Int → Int) (q to : Int) (t : Int) (r : Int) : Prop := ∀ k : Nat, (k : Int) ≤ t → zR s q to k r → f r ≤ (k : Int)
def zFar (s f : Int → Int) (q : Int) : Prop := ∀ r : Int, 0 ≤ r → r < 12 → f r < 100 → 0 ≤ f r ∧ f r ≤ 11 ∧ (0 < f r → ∃ o : Int, 0 ≤ o ∧ o < s 2 ∧ zadj s q r o ∧ f o = f r - 1)
def zs273 : vSp := fun vs σ K => match vs with
  | [.inr (.inl 12), .inl q, .inl to] => ((0 ≤ q ∧ q ≤ 5) ∧ (0 ≤ to ∧ to ≤ 11)) ∧ ∀ σ2 : vS, zfr [59] σ σ2 → zFar (σ2 52) (σ2 59) q → K none σ2
  | _ => False
def md287 : aMd := gc_287_0.2.2.2
end
theorem zfr_refl {ts : List Nat} {σ : vS} : zfr ts σ σ := fun _ _ => rfl
theorem vup_fr {σ : vS} {t t2 : Nat} {i x : Int} (h : ¬ t2 = t) : vup σ t i x t2 = σ t2 := funext fun j => if_neg (fun q => h q.1)
theorem zfr_up {ts : List Nat} {σ σ2 : vS} {t : Nat} {i x : Int} (h : zfr ts σ σ2) (ht : t ∈ ts) : zfr ts σ (vup σ2 t i x) := fun t2 h2 => by
  rw [vup_fr (fun q => h2 (by rw [q]; exact ht))]
  exact h t2 h2
theorem vup_f {σ : vS} {t : Nat} {i x : Int} : vup σ t i x t = ful (σ t) i x := funext fun j => by
  unfold vup ful
  by_cases h : j = i
  · rw [if_pos ⟨rfl, h⟩, if_pos h]
  · rw [if_neg (fun q => h q.2), if_neg h]
theorem ful_at {f : Int → Int} {i x : Int} : ful f i x i = x := if_pos rfl
theorem ful_ne {f : Int → Int} {i x j : Int} (h : ¬ j = i) : ful f i x j = f j := if_neg h
theorem zcn_le {p q : Int → Prop} : ∀ (n : Nat), (∀ k : Int, 0 ≤ k → k < (n : Int) → p k → q k) → zcn p n ≤ zcn q n
  | 0, _ => Nat.le_refl _
  | n + 1, h => by
    have i := zcn_le n (fun k h0 h1 h2 => h k h0 (by omega) h2)
    show zcn p n + _ ≤ zcn q n + _
    by_cases hp : p (n : Int)
    · rw [if_pos hp, if_pos (h _ (by omega) (by omega) hp)]
      omega
    · rw [if_neg hp]
      omega
theorem zcn_lt {p q : Int → Prop} {j : Int} : ∀ (n : Nat), (∀ k : Int, 0 ≤ k → k < (n : Int) → p k → q k) → 0 ≤ j → j < (n : Int) → ¬ p j → q j → zcn p n < zcn q n
  | 0, _, h0, h1, _, _ => by omega
  | n + 1, h, h0, h1, h2, h3 => by
    show zcn p n + _ < zcn q n + _
    by_cases hj : j = (n : Int)
    · subst hj
      have i := zcn_le (p := p) (q := q) n (fun k h0 h1 h2 => h k h0 (by omega) h2)
      rw [if_neg h2, if_pos h3]
      omega
    · have i := zcn_lt (p := p) (q := q) (j := j) n (fun k h0 h1 h2 => h k h0 (by omega) h2) h0 (by omega) h2 h3
      by_cases hp : p (n : Int)
      · rw [if_pos hp, if_pos (h _ (by omega) (by omega) hp)]
        omega
      · rw [if_neg hp]
        omega
theorem zcn_top {p : Int → Prop} : ∀ (n : Nat), zcn p n ≤ n
  | 0 => Nat.le_refl _
  | n + 1 => by
    have := zcn_top (p := p) n
    show zcn p n + _ ≤ _
    by_cases hp : p (n : Int)
    · rw [if_pos hp]; omega
    · rw [if_neg hp]; omega
/-- exactly one more -/
theorem zcn_up {p q : Int → Prop} {j : Int} : ∀ (n : Nat), (∀ k : Int, 0 ≤ k → k < (n : Int) → ¬ k = j → (p k ↔ q k)) → 0 ≤ j → j < (n : Int) → ¬ p j → q j → zcn q n = zcn p n + 1
  | 0, _, h0, h1, _, _ => by omega
  | n + 1, h, h0, h1, h2, h3 => by
    show zcn q n + _ = zcn p n + _ + 1
    by_cases hj : j = (n : Int)
    · subst hj
      have i1 := zcn_le (p := p) (q := q) n (fun k h0 h1 h2 => (h k h0 (by omega) (by omega)).mp h2)
      have i2 := zcn_le (p := q) (q := p) n (fun k h0 h1 h2 => (h k h0 (by omega) (by omega)).mpr h2)
      rw [if_neg h2, if_pos h3]
      omega
    · have i := zcn_up (p := p) (q := q) (j := j) n (fun k h0 h1 h2 => h k h0 (by omega) h2) h0 (by omega) h2 h3
      by_cases hp : p (n : Int)
      · rw [if_pos hp, if_pos ((h _ (by omega) (by omega) (fun e => hj e.symm)).mp hp)]
        omega
      · rw [if_neg hp, if_neg (fun hq => hp ((h _ (by omega) (by omega) (fun e => hj e.symm)).mpr hq))]
        omega
section ZR
variable {s f : Int → Int} {q to : Int}
theorem zR_stab (hs : s 2 ≤ 12) (h0 : 0 ≤ to) (h1 : to ≤ 11) : ∃ k : Nat, k ≤ 11 ∧ ∀ (m : Nat) (r : Int), 0 ≤ r → r < 12 → zR s q to m r → zR s q to k r := by
  have key : ∃ k : Nat, k ≤ 11 ∧ ∀ r : Int, 0 ≤ r → r < 12 → zR s q to (k + 1) r → zR s q to k r := by
    apply Classical.byContradiction
    intro hc
    have step : ∀ k : Nat, k ≤ 12 → k + 1 ≤ zcn (zR s q to k) 12 := by
      intro k
      induction k with
      | zero =>
        intro _
        have := zcn_lt (p := fun _ => False) (q := zR s q to 0) (j := to) 12 (fun k _ _ h => h.elim) h0 (by omega) id rfl
        omega
      | succ k ih =>
        intro hk
        have i := ih (by omega)
        have : ∃ r : Int, 0 ≤ r ∧ r < 12 ∧ zR s q to (k + 1) r ∧ ¬ zR s q to k r := by
          apply Classical.byContradiction
          intro hn
          refine hc ⟨k, by omega, fun r r0 r1 r2 => ?_⟩
          apply Classical.byContradiction
          intro r3
          exact hn ⟨r, r0, r1, r2, r3⟩
        obtain ⟨r, r0, r1, r2, r3⟩ := this
        have := zcn_lt (p := zR s q to k) (q := zR s q to (k + 1)) (j := r) 12 (fun j _ _ h => Or.inl h) r0 (by omega) r3 r2
        omega
    have a := step 12 (by omega)
    have b := zcn_top (p := zR s q to 12) 12
    omega
  obtain ⟨k, hk, hst⟩ := key
  refine ⟨k, hk, fun m => ?_⟩
  by_cases hm : m ≤ k
  · obtain ⟨d, rfl⟩ := Nat.le.dest hm
    intro r _ _ h
    clear hst hk hm
    induction d with
    | zero => exact h
    | succ d ih => exact Or.inl ih
  · obtain ⟨d, rfl⟩ := Nat.le.dest (Nat.le_of_not_le hm)
    clear hm
    induction d with
    | zero => exact fun r _ _ h => h
    | succ d ih =>
      intro r r0 r1 h
      rcases h with h | ⟨o, o0, o1, o2, o3⟩
      · exact ih r r0 r1 h
      · exact hst r r0 r1 (Or.inr ⟨o, o0, o1, o2, ih o o0 (by omega) o3⟩)
theorem zR_min {r : Int} : ∀ n : Nat, zR s q to n r → ∃ k : Nat, k ≤ n ∧ zR s q to k r ∧ ∀ j : Nat, j < k → ¬ zR s q to j r := by
  intro n
  induction n with
  | zero => exact fun h => ⟨0, Nat.le_refl _, h, fun j hj => absurd hj (Nat.not_lt_zero _)⟩
  | succ n ih =>
    intro h
    by_cases h2 : zR s q to n r
    · obtain ⟨k, a, b⟩ := ih h2
      exact ⟨k, by omega, b⟩
    · refine ⟨n + 1, Nat.le_refl _, h, fun j hj hr => h2 ?_⟩
      have hjn : j ≤ n := by omega
      obtain ⟨d, rfl⟩ := Nat.le.dest hjn
      clear h h2 ih hj hjn
      induction d with
      | zero => exact hr
      | succ d ih => exact Or.inl ih
theorem zI_far (hs : s 2 ≤ 12) (h0 : 0 ≤ to) (h1 : to ≤ 11) (hI : zI s f q to) (hC : ∀ r : Int, 0 ≤ r → r < s 2 → zC s f q to 12 r) : zFar s f q := by
  obtain ⟨kk, hk1, hk2⟩ := zR_stab (s := s) (q := q) hs h0 h1
  intro r r0 r1 hf
  obtain ⟨a1, a2, a3⟩ := hI.1 r r0 r1
  by_cases hto : r = to
  · rw [hto, hI.2.1]
    exact ⟨by omega, by omega, fun h => by omega⟩
  by_cases hr : r < s 2
  · have a3 := a3 hf
    obtain ⟨k, b1, b2, b3⟩ := zR_min kk (hk2 _ r r0 r1 a3)
    have c1 := hC r r0 hr k (by omega) b2
    have c2 : k ≤ (f r).toNat := by
      apply Nat.le_of_not_lt
      intro h
      exact b3 _ h a3
    refine ⟨a1, by omega, fun hp => ?_⟩
    cases k with
    | zero => omega
    | succ k =>
      rcases b2 with b2 | ⟨o, o0, o1, o2, o3⟩
      · exact absurd b2 (b3 k (by omega))
      · refine ⟨o, o0, o1, o2, ?_⟩
        have d1 := hC o o0 o1 k (by omega) o3
        obtain ⟨e1, e2, e3⟩ := hI.1 o o0 (by omega)
        have e3 := e3 (by omega)
        have d2 : zR s q to ((f o).toNat + 1) r := Or.inr ⟨o, o0, o1, o2, e3⟩
        have d3 : k + 1 ≤ (f o).toNat + 1 := by
          apply Nat.le_of_not_lt
          intro h
          exact b3 _ h d2
        omega
  · have := hI.2.2 r (by omega) r1 hto
    omega
theorem zI_up (hs : s 2 ≤ 12) (h0 : 0 ≤ to) (hI : zI s f q to) {r o : Int} (r0 : 0 ≤ r) (r1 : r < s 2) (o0 : 0 ≤ o) (o1 : o < s 2) (ha : zadj s q r o) (hlt : f o + 1 < f r) : zI s (ful f r (f o + 1)) q to := by
  obtain ⟨i1, i2, i3⟩ := hI
  obtain ⟨p1, p2, p3⟩ := i1 o o0 (by omega)
  obtain ⟨g1, g2, g3⟩ := i1 r r0 (by omega)
  refine ⟨fun j j0 j1 => ?_, ?_, fun j j0 j1 j2 => ?_⟩
  · by_cases hj : j = r
    · subst hj
      rw [ful_at]
      refine ⟨by omega, by omega, fun _ => ?_⟩
      have e : (f o + 1).toNat = (f o).toNat + 1 := by omega
      rw [e]
      exact Or.inr ⟨o, o0, o1, ha, p3 (by omega)⟩
    · rw [ful_ne hj]
      exact i1 j j0 j1
  · rw [ful_ne]
    · exact i2
    · rintro rfl
      omega
  · rw [ful_ne (by omega)]
    exact i3 j j0 j1 j2
theorem ful_le {r x : Int} (h : x ≤ f r) (j : Int) : ful f r x j ≤ f j := by
  by_cases hj : j = r
  · subst hj; rw [ful_at]; exact h
  · rw [ful_ne hj]; exact Int.le_refl _
theorem zC_le {g : Int → Int} {t r : Int} (h : zC s f q to t r) (hg : g r ≤ f r) : zC s g q to t r := fun k hk hr => Int.le_trans hg (h k hk hr)
end ZR
section Z2
variable {E : zE} {J : List aJ} {md : aMd} {w : va_W} {σ : vS} {K : vK}

theorem z_190 (B : zB E) : zOK E J md w 190 zs190 := by
  intro q hq vs σ K h
  have e0 : gMT 190 = some (gm_190, 3) := rfl
  rw [e0] at hq
  cases hq
  unfold zs190 at h
  split at h
  · rename_i q o
    have h1 := h.1
    refine zbd (fun hb => zgo B (zS_cons (z_182 B) zS_nil) [] [] (fun _ => false) (by decide +kernel) ?_)
    refine And.intro (show 0 ≤ 181 ∧ 181 < 402 from by omega) ?_
    have f1 : (-2147483648) ≤ σ 52 181 ∧ σ 52 181 ≤ 2147483647 := zb B hb (t := 52) (a := 179) (n := 185) (i := 181) (by decide +kernel) (by omega) (by omega)
    refine And.intro (show 0 ≤ o ∧ o ≤ 31 from by omega) (fun (z2 : Int) (h3 : (z2 = 1 ∧ tb (σ 52 181) o = true) ∨ (z2 = 0 ∧ tb (σ 52 181) o = false)) => ?_)
    rcases h3 with ⟨rfl, t4⟩ | ⟨rfl, t4⟩
    · refine And.intro (show 0 ≤ 1 ∧ 1 ≤ 1 from by omega) ?_
      refine And.intro (fun _ => ?_) (fun (q : 1 = 0) => absurd q (by decide))
      refine And.intro (show 0 ≤ 0 ∧ 0 ≤ 1 from by omega) ?_
      show K (some (.inl 0)) σ
      exact h.2 _ (Or.inr ⟨rfl, by unfold zen; simp [*]; try omega⟩)
    · refine And.intro (show 0 ≤ 0 ∧ 0 ≤ 1 from by omega) ?_
      refine And.intro (fun (q : ¬ 0 = 0) => absurd q (by decide)) (fun _ => ?_)
      refine And.intro (show -2147483648 ≤ (185 + o) ∧ (185 + o) ≤ 2147483647 from by omega) ?_
      refine And.intro (show 0 ≤ (185 + o) ∧ (185 + o) < 402 from by omega) ?_
      have f5 : 0 ≤ σ 52 (185 + o) ∧ σ 52 (185 + o) ≤ 6 := zb B hb (t := 52) (a := 185) (n := 197) (i := 185 + o) (by decide +kernel) (by omega) (by omega)
      refine And.intro (show -2147483648 ≤ ((σ 52 (185 + o)) - 1) ∧ ((σ 52 (185 + o)) - 1) ≤ 2147483647 from by omega) ?_
      refine And.intro (fun (c6 : ((σ 52 (185 + o)) - 1) < 0) => ?_) (fun (c7 : 0 ≤ ((σ 52 (185 + o)) - 1)) => ?_)
      · refine And.intro (show 0 ≤ 1 ∧ 1 ≤ 1 from by omega) ?_
        refine And.intro (fun (q : 1 = 0) => absurd q (by decide)) (fun _ => ?_)
        refine And.intro (show 0 ≤ 1 ∧ 1 ≤ 1 from by omega) ?_
        show K (some (.inl 1)) σ
        exact h.2 _ (Or.inl ⟨rfl, by unfold zen; simp [*]⟩)
      · refine And.intro (fun (c8 : ((σ 52 (185 + o)) - 1) = q) => ?_) (fun (c9 : ¬ ((σ 52 (185 + o)) - 1) = q) => ?_)
        · refine And.intro (show 0 ≤ 1 ∧ 1 ≤ 1 from by omega) ?_
          refine And.intro (fun (q : 1 = 0) => absurd q (by decide)) (fun _ => ?_)
          refine And.intro (show 0 ≤ 1 ∧ 1 ≤ 1 from by omega) ?_
          show K (some (.inl 1)) σ
          exact h.2 _ (Or.inl ⟨rfl, by unfold zen; simp [*]⟩)
        · refine And.intro (show -2147483648 ≤ (203 + ((σ 52 (185 + o)) - 1)) ∧ (203 + ((σ 52 (185 + o)) - 1)) ≤ 2147483647 from by omega) ?_
          refine And.intro (show 0 ≤ (203 + ((σ 52 (185 + o)) - 1)) ∧ (203 + ((σ 52 (185 + o)) - 1)) < 402 from by omega) ?_
          have f10 : (-2147483648) ≤ σ 52 (203 + ((σ 52 (185 + o)) - 1)) ∧ σ 52 (203 + ((σ 52 (185 + o)) - 1)) ≤ 2147483647 := zb B hb (t := 52) (a := 203) (n := 209) (i := 203 + ((σ 52 (185 + o)) - 1)) (by decide +kernel) (by omega) (by omega)
          refine And.intro (show 0 ≤ q ∧ q ≤ 31 from by omega) (fun (z11 : Int) (h12 : (z11 = 1 ∧ tb (σ 52 (203 + ((σ 52 (185 + o)) - 1))) q = true) ∨ (z11 = 0 ∧ tb (σ 52 (203 + ((σ 52 (185 + o)) - 1))) q = false)) => ?_)
          rcases h12 with ⟨rfl, t13⟩ | ⟨rfl, t13⟩
          · refine And.intro (fun (q : 1 = 0) => absurd q (by decide)) (fun _ => ?_)
            refine And.intro (show 0 ≤ 1 ∧ 1 ≤ 1 from by omega) ?_
            refine And.intro (fun (q : 1 = 0) => absurd q (by decide)) (fun _ => ?_)
            refine And.intro (show 0 ≤ 1 ∧ 1 ≤ 1 from by omega) ?_
            show K (some (.inl 1)) σ
            exact h.2 _ (Or.inl ⟨rfl, by unfold zen; simp [*]⟩)
          · refine And.intro (fun _ => ?_) (fun (q : ¬ 0 = 0) => absurd q (by decide))
            refine And.intro (show 0 ≤ 0 ∧ 0 ≤ 1 from by omega) ?_
            refine And.intro (fun _ => ?_) (fun (q : ¬ 0 = 0) => absurd q (by decide))
            refine And.intro (show 0 ≤ 0 ∧ 0 ≤ 1 from by omega) ?_
            show K (some (.inl 0)) σ
            exact h.2 _ (Or.inr ⟨rfl, by unfold zen; simp [*]; try omega⟩)
  · exact absurd h id
theorem z_spr4 (B : zB E) {σ0 : vS} {q to n : Int} (hq : 0 ≤ q ∧ q ≤ 5) (hto : 0 ≤ to ∧ to ≤ 11) (n0 : 0 ≤ n ∧ n ≤ 12) {t r : Int} (t0 : 0 ≤ t) (r0 : 0 ≤ r) (r1 : r < n) (hN : ∀ σ : vS, σ 52 2 = n → zfr [59] σ0 σ → zI (σ 52) (σ 59) q to → (∀ j : Int, 0 ≤ j → j < n → zC (σ 52) (σ 59) q to t j) → (∀ j : Int, 0 ≤ j → j < r + 1 → zC (σ 52) (σ 59) q to (t + 1) j) → zG E gJ1 md287 w gm_273 42 [(0, .inr (.inl 12)), (1, .inl q), (2, .inl to), (3, .inl t), (4, .inl (r + 1))] σ K) : ∀ (m : Nat) (o : Int) (σ : vS), n - o < (m : Int) → 0 ≤ o → o ≤ n → σ 52 2 = n → zfr [59] σ0 σ → zI (σ 52) (σ 59) q to → (∀ j : Int, 0 ≤ j → j < n → zC (σ 52) (σ 59) q to t j) → (∀ j : Int, 0 ≤ j → j < r → zC (σ 52) (σ 59) q to (t + 1) j) → (∀ j : Int, 0 ≤ j → j < o → zadj (σ 52) q r j → ∀ k : Nat, (k : Int) ≤ t → zR (σ 52) q to k j → σ 59 r ≤ (k : Int) + 1) → zG E gJ1 md287 w gm_273 64 [(0, .inr (.inl 12)), (1, .inl q), (2, .inl to), (3, .inl t), (4, .inl r), (5, .inl (zbF (σ 52) r)), (6, .inl o)] σ K := by
  intro m
  induction m with
  | zero => intro o σ h; omega
  | succ m ih =>
    intro o σ hm h0 h1 hn hf hI hC hD hO
    refine zbd (fun hb => zgo B (zS_cons (z_181 B) (zS_cons (z_190 B) (zS_cons (z_182 B) zS_nil))) [] [(2, [0, 1, 2, 3]), (33, [0, 1, 2, 3]), (42, [0, 1, 2, 3, 4]), (64, [0, 1, 2, 3, 4, 5, 6])] (fun m => Nat.beq m.2.2.2.2.1 165) (by decide +kernel) ?_)
    refine And.intro (show 0 ≤ 2 ∧ 2 < 402 from by omega) ?_
    have f1 : 0 ≤ σ 52 2 ∧ σ 52 2 ≤ 12 := zb B hb (t := 52) (a := 2) (n := 3) (i := 2) (by decide +kernel) (by omega) (by omega)
    refine And.intro (fun (c2 : (σ 52 2) ≤ o) => ?_) (fun (c3 : o < (σ 52 2)) => ?_)
    · refine And.intro (show -2147483648 ≤ (r + 1) ∧ (r + 1) ≤ 2147483647 from by omega) ?_
      show zG E gJ1 md287 w gm_273 42 [(0, .inr (.inl 12)), (1, .inl q), (2, .inl to), (3, .inl t), (4, .inl (r + 1))] σ K
      exact hN σ hn hf hI hC (fun j j0 j1 => by
        by_cases hj : j = r
        · subst hj
          intro k hk hR
          cases k with
          | zero => exact hC _ r0 (by omega) 0 (by omega) hR
          | succ k =>
            rcases hR with hR | ⟨o, o0, o1, o2, o3⟩
            · have := hC _ r0 (by omega) k (by omega) hR
              omega
            · have := hO o o0 (by omega) o2 k (by omega) o3
              omega
        · exact hD j j0 (by omega))
    · refine And.intro (show 0 ≤ o ∧ o ≤ 31 from by omega) (fun (z4 : Int) (h5 : (z4 = 1 ∧ tb (zbF (σ 52) r) o = true) ∨ (z4 = 0 ∧ tb (zbF (σ 52) r) o = false)) => ?_)
      rcases h5 with ⟨rfl, t6⟩ | ⟨rfl, t6⟩
      · refine And.intro (fun (q : 1 = 0) => absurd q (by decide)) (fun _ => ?_)
        refine And.intro (show (0 ≤ q ∧ q ≤ 5) ∧ (0 ≤ o ∧ o ≤ 11) from by omega) (fun (z7 : Int) (h8 : (z7 = 1 ∧ zen (σ 52) q o) ∨ (z7 = 0 ∧ ¬ zen (σ 52) q o)) => ?_)
        rcases h8 with ⟨rfl, t9⟩ | ⟨rfl, t9⟩
        · refine And.intro (fun (q : 1 = 0) => absurd q (by decide)) (fun _ => ?_)
          refine And.intro (show 0 ≤ o ∧ o < 12 from by omega) ?_
          have f10 : 0 ≤ σ 59 o ∧ σ 59 o ≤ 100 := zb B hb (t := 59) (a := 0) (n := 12) (i := o) (by decide +kernel) (by omega) (by omega)
          refine And.intro (show -2147483648 ≤ ((σ 59 o) + 1) ∧ ((σ 59 o) + 1) ≤ 2147483647 from by omega) ?_
          refine And.intro (show 0 ≤ r ∧ r < 12 from by omega) ?_
          have f11 : 0 ≤ σ 59 r ∧ σ 59 r ≤ 100 := zb B hb (t := 59) (a := 0) (n := 12) (i := r) (by decide +kernel) (by omega) (by omega)
          refine And.intro (fun (c12 : (σ 59 r) ≤ ((σ 59 o) + 1)) => ?_) (fun (c13 : ((σ 59 o) + 1) < (σ 59 r)) => ?_)
          · refine And.intro (show -2147483648 ≤ (o + 1) ∧ (o + 1) ≤ 2147483647 from by omega) ?_
            show zG E gJ1 md287 w gm_273 64 [(0, .inr (.inl 12)), (1, .inl q), (2, .inl to), (3, .inl t), (4, .inl r), (5, .inl (zbF (σ 52) r)), (6, .inl (o + 1))] σ K
            refine ih (o + 1) σ (by omega) (by omega) (by omega) hn hf hI hC hD (fun j j0 j1 ja k hk hR => ?_)
            by_cases hj : j = o
            · subst hj
              first
              | exact absurd ja.2 (by assumption)
              | (have := ja.1; simp_all; done)
              | (have := hC j j0 (by omega) k hk hR; omega)
            · exact hO j j0 (by omega) ja k hk hR
          · refine And.intro (show 0 ≤ o ∧ o < 12 from by omega) ?_
            refine And.intro (show -2147483648 ≤ ((σ 59 o) + 1) ∧ ((σ 59 o) + 1) ≤ 2147483647 from by omega) ?_
            refine And.intro (show 0 ≤ r ∧ r < 12 from by omega) ?_
            refine And.intro (show 0 ≤ ((σ 59 o) + 1) ∧ ((σ 59 o) + 1) ≤ 100 from by omega) ?_
            refine And.intro (show -2147483648 ≤ (o + 1) ∧ (o + 1) ≤ 2147483647 from by omega) ?_
            show zG E gJ1 md287 w gm_273 64 [(0, .inr (.inl 12)), (1, .inl q), (2, .inl to), (3, .inl t), (4, .inl r), (5, .inl (zbF (σ 52) r)), (6, .inl (o + 1))] (vup σ 59 r ((σ 59 o) + 1)) K
            have ha : zadj (σ 52) q r o := ⟨by assumption, by assumption⟩
            have hle := fun j => ful_le (f := σ 59) (r := r) (x := σ 59 o + 1) (by omega) j
            refine ih (o + 1) (vup σ 59 r (σ 59 o + 1)) (by omega) (by omega) (by omega) hn (zfr_up hf (by decide)) (by rw [vup_f]; exact zI_up (by omega) hto.1 hI r0 (by omega) h0 (by omega) ha (by omega)) (by rw [vup_f]; exact fun j j0 j1 => zC_le (hC j j0 j1) (hle j)) (by rw [vup_f]; exact fun j j0 j1 => zC_le (hD j j0 j1) (hle j)) ?_
            rw [vup_f]
            intro j j0 j1 ja k hk hR
            by_cases hj : j = o
            · subst hj
              have := hC j j0 (by omega) k hk hR
              rw [ful_at]
              omega
            · exact Int.le_trans (hle r) (hO j j0 (by omega) ja k hk hR)
        · refine And.intro (fun _ => ?_) (fun (q : ¬ 0 = 0) => absurd q (by decide))
          refine And.intro (show -2147483648 ≤ (o + 1) ∧ (o + 1) ≤ 2147483647 from by omega) ?_
          show zG E gJ1 md287 w gm_273 64 [(0, .inr (.inl 12)), (1, .inl q), (2, .inl to), (3, .inl t), (4, .inl r), (5, .inl (zbF (σ 52) r)), (6, .inl (o + 1))] σ K
          refine ih (o + 1) σ (by omega) (by omega) (by omega) hn hf hI hC hD (fun j j0 j1 ja k hk hR => ?_)
          by_cases hj : j = o
          · subst hj
            first
            | exact absurd ja.2 (by assumption)
            | (have := ja.1; simp_all; done)
            | (have := hC j j0 (by omega) k hk hR; omega)
          · exact hO j j0 (by omega) ja k hk hR
      · refine And.intro (fun _ => ?_) (fun (q : ¬ 0 = 0) => absurd q (by decide))
        refine And.intro (show -2147483648 ≤ (o + 1) ∧ (o + 1) ≤ 2147483647 from by omega) ?_
        show zG E gJ1 md287 w gm_273 64 [(0, .inr (.inl 12)), (1, .inl q), (2, .inl to), (3, .inl t), (4, .inl r), (5, .inl (zbF (σ 52) r)), (6, .inl (o + 1))] σ K
        refine ih (o + 1) σ (by omega) (by omega) (by omega) hn hf hI hC hD (fun j j0 j1 ja k hk hR => ?_)
        by_cases hj : j = o
        · subst hj
          first
          | exact absurd ja.2 (by assumption)
          | (have := ja.1; simp_all; done)
          | (have := hC j j0 (by omega) k hk hR; omega)
        · exact hO j j0 (by omega) ja k hk hR
theorem z_spr3 (B : zB E) {σ0 : vS} {q to n : Int} (hq : 0 ≤ q ∧ q ≤ 5) (hto : 0 ≤ to ∧ to ≤ 11) (n0 : 0 ≤ n ∧ n ≤ 12) {t : Int} (t0 : 0 ≤ t) (hN : ∀ σ : vS, σ 52 2 = n → zfr [59] σ0 σ → zI (σ 52) (σ 59) q to → (∀ j : Int, 0 ≤ j → j < n → zC (σ 52) (σ 59) q to (t + 1) j) → zG E gJ1 md287 w gm_273 33 [(0, .inr (.inl 12)), (1, .inl q), (2, .inl to), (3, .inl (t + 1))] σ K) (ht : t < 12) : ∀ (m : Nat) (r : Int) (σ : vS), n - r < (m : Int) → 0 ≤ r → r ≤ n → σ 52 2 = n → zfr [59] σ0 σ → zI (σ 52) (σ 59) q to → (∀ j : Int, 0 ≤ j → j < n → zC (σ 52) (σ 59) q to t j) → (∀ j : Int, 0 ≤ j → j < r → zC (σ 52) (σ 59) q to (t + 1) j) → zG E gJ1 md287 w gm_273 42 [(0, .inr (.inl 12)), (1, .inl q), (2, .inl to), (3, .inl t), (4, .inl r)] σ K := by
  intro m
  induction m with
  | zero => intro r σ h; omega
  | succ m ih =>
    intro r σ hm h0 h1 hn hf hI hC hD
    refine zbd (fun hb => zgo B (zS_cons (z_181 B) (zS_cons (z_190 B) (zS_cons (z_182 B) zS_nil))) [] [(2, [0, 1, 2, 3]), (33, [0, 1, 2, 3]), (42, [0, 1, 2, 3, 4]), (64, [0, 1, 2, 3, 4, 5, 6])] (fun m => Nat.beq m.2.2.2.2.1 165) (by decide +kernel) ?_)
    refine And.intro (show 0 ≤ 2 ∧ 2 < 402 from by omega) ?_
    have f1 : 0 ≤ σ 52 2 ∧ σ 52 2 ≤ 12 := zb B hb (t := 52) (a := 2) (n := 3) (i := 2) (by decide +kernel) (by omega) (by omega)
    refine And.intro (fun (c2 : (σ 52 2) ≤ r) => ?_) (fun (c3 : r < (σ 52 2)) => ?_)
    · refine And.intro (show -2147483648 ≤ (t + 1) ∧ (t + 1) ≤ 2147483647 from by omega) ?_
      show zG E gJ1 md287 w gm_273 33 [(0, .inr (.inl 12)), (1, .inl q), (2, .inl to), (3, .inl (t + 1))] σ K
      exact hN σ hn hf hI (fun j j0 j1 => hD j j0 (by omega))
    · show zG E gJ1 md287 w gm_273 64 [(0, .inr (.inl 12)), (1, .inl q), (2, .inl to), (3, .inl t), (4, .inl r), (5, .inl (zbF (σ 52) r)), (6, .inl 0)] σ K
      exact z_spr4 B hq hto n0 t0 h0 (by omega) (fun σ2 a1 a2 a3 a4 a5 => ih (r + 1) σ2 (by omega) (by omega) (by omega) a1 a2 a3 a4 a5) 13 0 σ (by omega) (by omega) (by omega) hn hf hI hC hD (fun j j0 j1 => by omega)
theorem z_spr2 (B : zB E) {σ0 : vS} {q to n : Int} (hq : 0 ≤ q ∧ q ≤ 5) (hto : 0 ≤ to ∧ to ≤ 11) (n0 : 0 ≤ n ∧ n ≤ 12) (hK : ∀ σ : vS, zfr [59] σ0 σ → zFar (σ 52) (σ 59) q → K none σ) : ∀ (m : Nat) (t : Int) (σ : vS), 12 - t < (m : Int) → 0 ≤ t → t ≤ 12 → σ 52 2 = n → zfr [59] σ0 σ → zI (σ 52) (σ 59) q to → (∀ j : Int, 0 ≤ j → j < n → zC (σ 52) (σ 59) q to t j) → zG E gJ1 md287 w gm_273 33 [(0, .inr (.inl 12)), (1, .inl q), (2, .inl to), (3, .inl t)] σ K := by
  intro m
  induction m with
  | zero => intro t σ h; omega
  | succ m ih =>
    intro t σ hm h0 h1 hn hf hI hC
    refine zbd (fun hb => zgo B (zS_cons (z_181 B) (zS_cons (z_190 B) (zS_cons (z_182 B) zS_nil))) [] [(2, [0, 1, 2, 3]), (33, [0, 1, 2, 3]), (42, [0, 1, 2, 3, 4]), (64, [0, 1, 2, 3, 4, 5, 6])] (fun m => Nat.beq m.2.2.2.2.1 165) (by decide +kernel) ?_)
    refine And.intro (fun (c1 : 12 ≤ t) => ?_) (fun (c2 : t < 12) => ?_)
    · show K none σ
      exact hK σ hf (zI_far (by omega) hto.1 hto.2 hI (fun j j0 j1 => by
        have e : t = 12 := by omega
        rw [← e]
        exact hC j j0 (by omega)))
    · show zG E gJ1 md287 w gm_273 42 [(0, .inr (.inl 12)), (1, .inl q), (2, .inl to), (3, .inl t), (4, .inl 0)] σ K
      exact z_spr3 B hq hto n0 h0 (fun σ2 a1 a2 a3 a4 => ih (t + 1) σ2 (by omega) (by omega) (by omega) a1 a2 a3 a4) (by omega) 13 0 σ (by omega) (by omega) (by omega) hn hf hI hC (fun j j0 j1 => by omega)
theorem z_spr1 (B : zB E) {σ0 : vS} {q to n : Int} (hq : 0 ≤ q ∧ q ≤ 5) (hto : 0 ≤ to ∧ to ≤ 11) (n0 : 0 ≤ n ∧ n ≤ 12) (hK : ∀ σ : vS, zfr [59] σ0 σ → zFar (σ 52) (σ 59) q → K none σ) : ∀ (m : Nat) (r : Int) (σ : vS), 12 - r < (m : Int) → 0 ≤ r → r ≤ 12 → σ 52 2 = n → zfr [59] σ0 σ → (∀ j : Int, 0 ≤ j → j < r → σ 59 j = if j = to then 0 else 100) → zG E gJ1 md287 w gm_273 2 [(0, .inr (.inl 12)), (1, .inl q), (2, .inl to), (3, .inl r)] σ K := by
  intro m
  induction m with
  | zero => intro r σ h; omega
  | succ m ih =>
    intro r σ hm h0 h1 hn hf hA
    refine zbd (fun hb => zgo B (zS_cons (z_181 B) (zS_cons (z_190 B) (zS_cons (z_182 B) zS_nil))) [] [(2, [0, 1, 2, 3]), (33, [0, 1, 2, 3]), (42, [0, 1, 2, 3, 4]), (64, [0, 1, 2, 3, 4, 5, 6])] (fun m => Nat.beq m.2.2.2.2.1 165) (by decide +kernel) ?_)
    refine And.intro (fun (c1 : 12 ≤ r) => ?_) (fun (c2 : r < 12) => ?_)
    · show zG E gJ1 md287 w gm_273 33 [(0, .inr (.inl 12)), (1, .inl q), (2, .inl to), (3, .inl 0)] σ K
      have hv : ∀ j : Int, 0 ≤ j → j < 12 → σ 59 j = if j = to then 0 else 100 := fun j j0 j1 => hA j j0 (by omega)
      refine z_spr2 B hq hto n0 hK 13 0 σ (by omega) (by omega) (by omega) hn hf ⟨fun j j0 j1 => ?_, ?_, fun j j0 j1 j2 => ?_⟩ (fun j j0 j1 k hk hR => ?_)
      · rw [hv j j0 j1]
        by_cases hj : j = to
        · rw [if_pos hj]
          exact ⟨by omega, by omega, fun _ => hj⟩
        · rw [if_neg hj]
          exact ⟨by omega, by omega, fun h => by omega⟩
      · rw [hv to hto.1 (by omega), if_pos rfl]
      · rw [hv j (by omega) j1, if_neg j2]
      · have e : k = 0 := by omega
        subst e
        have hR : j = to := hR
        rw [hv j j0 (by omega), if_pos hR]
        exact Int.le_refl _
    · refine And.intro (fun (c3 : ¬ r = to) => ?_) (fun (c4 : r = to) => ?_)
      · refine And.intro (show 0 ≤ r ∧ r < 12 from by omega) ?_
        refine And.intro (show 0 ≤ 100 ∧ 100 ≤ 100 from by omega) ?_
        refine And.intro (show -2147483648 ≤ (r + 1) ∧ (r + 1) ≤ 2147483647 from by omega) ?_
        show zG E gJ1 md287 w gm_273 2 [(0, .inr (.inl 12)), (1, .inl q), (2, .inl to), (3, .inl (r + 1))] (vup σ 59 r 100) K
        refine ih (r + 1) _ (by omega) (by omega) (by omega) (show σ 52 2 = n from hn) (zfr_up hf (by decide)) (fun j j0 j1 => ?_)
        rw [vup_f]
        by_cases hj : j = r
        · subst hj
          rw [ful_at]
          first
          | rw [if_pos (by assumption)]
          | rw [if_neg (by assumption)]
        · rw [ful_ne hj]
          exact hA j j0 (by omega)
      · refine And.intro (show 0 ≤ r ∧ r < 12 from by omega) ?_
        refine And.intro (show 0 ≤ 0 ∧ 0 ≤ 100 from by omega) ?_
        refine And.intro (show -2147483648 ≤ (r + 1) ∧ (r + 1) ≤ 2147483647 from by omega) ?_
        show zG E gJ1 md287 w gm_273 2 [(0, .inr (.inl 12)), (1, .inl q), (2, .inl to), (3, .inl (r + 1))] (vup σ 59 r 0) K
        refine ih (r + 1) _ (by omega) (by omega) (by omega) (show σ 52 2 = n from hn) (zfr_up hf (by decide)) (fun j j0 j1 => ?_)
        rw [vup_f]
        by_cases hj : j = r
        · subst hj
          rw [ful_at]
          first
          | rw [if_pos (by assumption)]
          | rw [if_neg (by assumption)]
        · rw [ful_ne hj]
          exact hA j j0 (by omega)
theorem z_273 (B : zB E) : zOK E gJ1 md287 w 273 zs273 := by
  intro q hq vs σ K h
  have e0 : gMT 273 = some (gm_273, 7) := rfl
  rw [e0] at hq
  cases hq
  unfold zs273 at h
  split at h
  · rename_i q to
    refine zbd (fun hb => zgo B (zS_cons (z_181 B) (zS_cons (z_190 B) (zS_cons (z_182 B) zS_nil))) [] [(2, [0, 1, 2, 3]), (33, [0, 1, 2, 3]), (42, [0, 1, 2, 3, 4]), (64, [0, 1, 2, 3, 4, 5, 6])] (fun m => Nat.beq m.2.2.2.2.1 165) (by decide +kernel) ?_)
    have fr := zb B hb (t := 52) (a := 2) (n := 3) (i := 2) (lo := 0) (hi := 12) (by decide +kernel) (by omega) (by omega)
    show zG E gJ1 md287 w gm_273 2 [(0, .inr (.inl 12)), (1, .inl q), (2, .inl to), (3, .inl 0)] σ K
    exact z_spr1 (n := σ 52 2) B h.1.1 h.1.2 fr h.2 13 0 σ (by omega) (by omega) (by omega) rfl zfr_refl (fun j j0 j1 => by omega)
  · exact absurd h id
end Z2
