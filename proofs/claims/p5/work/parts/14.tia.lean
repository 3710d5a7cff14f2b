/-! THE CHECKER, what its words mean. -/
def gcl (e : va_E) (i : Nat) : Option Value := match e with
  | .inr q => q.2[i]?
  | .inl (_, n, .inl f) => if i < n then some (.int (f i)) else none
  | .inl (_, n, .inr (.inl f)) => if i < n then some (.long (f i)) else none
  | .inl (_, n, .inr (.inr (.inr (.inr f)))) => if i < n then some (va_rf (f i)) else none
  | _ => none
def gcv (ws : va_W) (o i : Nat) : Option Value := match ws[o]? with
  | some q => gcl q.2 i
  | none => none
/-- a sentence in postfix is well formed: word i, how deep it is ahead of word i -/
def xcd (f : Nat → Int32) (a i : Nat) : Int := (f (a + 1 + 3 * i)).toInt
def xdp (f : Nat → Int32) (a : Nat) : Nat → Int
  | 0 => 0
  | i + 1 => xdp f a i + (if xcd f a i = 20 then 0 else if xcd f a i = 21 ∨ xcd f a i = 22 then -1 else 1)
def xVP (f : Nat → Int32) (a : Nat) : Prop := ∀ i : Nat, (i : Int) < (f a).toInt → (xcd f a i = 20 → 1 ≤ xdp f a i) ∧ (xcd f a i = 21 ∨ xcd f a i = 22 → 2 ≤ xdp f a i) ∧ 0 ≤ xdp f a i ∧ xdp f a i ≤ 44
def xP (t : Nat) (f : Nat → Int32) : Prop := (t = 52 → xVP f 221) ∧ (t = 74 → xVP f 221 ∧ xVP f 623)
def xE (t : Nat) (e : va_E) : Prop := ∀ (cA : ClassId) (n : Nat) (f : Nat → Int32), e = .inl (cA, n, .inl f) → xP t f
theorem xP_free {t : Nat} (h : xfree t = true) (f : Nat → Int32) : xP t f := by
  unfold xfree at h
  constructor
  · rintro rfl
    cases h
  · rintro rfl
    cases h
theorem xVP_0 {f : Nat → Int32} {a : Nat} (h : (f a).toInt ≤ 0) : xVP f a := fun i hi => by omega
theorem xdp_same {f g : Nat → Int32} {a : Nat} (h : ∀ j, a ≤ j → g j = f j) : ∀ i, xdp g a i = xdp f a i
  | 0 => rfl
  | i + 1 => by
    have e : xcd g a i = xcd f a i := by
      unfold xcd
      rw [h _ (by omega)]
    show xdp g a i + _ = xdp f a i + _
    rw [xdp_same h i, e]
theorem xVP_same {f g : Nat → Int32} {a : Nat} (h : ∀ j, a ≤ j → g j = f j) (hf : xVP f a) : xVP g a := fun i hi => by
  rw [h a (Nat.le_refl _)] at hi
  have e : xcd g a i = xcd f a i := by
    unfold xcd
    rw [h _ (by omega)]
  rw [xdp_same h, e]
  exact hf i hi
section AD
variable (b : Nat) (so ad : List Nat) (tys : List (ClassId × FieldType)) (ST : Nat → Option aS) (JL : List aJ)
def vOk (f : aF) (x : Value) : Prop := match f with
  | .inl q => ∃ z : Int32, x = .int z ∧ q.1 ≤ z.toInt ∧ z.toInt ≤ q.2
  | .inr (.inl t) => ∃ o a : Nat, so[o]? = some t ∧ ad[o]? = some a ∧ x = .ref a
  | .inr (.inr _) => ∃ z : Int64, x = .long z
/-- what lies at place i of an array -/
def rgAt (rg : List (Nat × Int × Int)) (i : Nat) : Option (Int × Int) := match rg with
  | [] => none
  | q :: t => if i < q.1 then some q.2 else rgAt t i
def eOk (t : Nat) (e : va_E) : Prop := match ST t with
  | some (.inl ob) => ∃ fs, e = .inr (ob.1, fs) ∧ fs.length = ob.2.length ∧ ∀ (i : Nat) (f : aF) (x : Value), ob.2[i]? = some f → fs[i]? = some x → vOk so ad f x
  | some (.inr ob) => (ob.1 < 3 ∧ ∃ (cA : ClassId) (f : Nat → Int32) (t0 : Nat), e = .inl (cA, ob.2.1, .inl f) ∧ tys[t0]? = some (cA, ekt ob.1) ∧ ∀ j, j < ob.2.1 → ∃ w, rgAt ob.2.2.1 j = some w ∧ w.1 ≤ (f j).toInt ∧ (f j).toInt ≤ w.2)
    ∨ (ob.1 = 3 ∧ ∃ (cA : ClassId) (f : Nat → Int64) (t0 : Nat), e = .inl (cA, ob.2.1, .inr (.inl f)) ∧ tys[t0]? = some (cA, .long))
    ∨ (ob.1 = 4 ∧ ∃ (cA : ClassId) (C : String) (f : Nat → Option Nat) (t0 : Nat), e = .inl (cA, ob.2.1, .inr (.inr (.inr (.inr f)))) ∧ tys[t0]? = some (cA, .object C) ∧ ∀ j, j < ob.2.1 → ∃ o a : Nat, so[o]? = some ob.2.2.2 ∧ ad[o]? = some a ∧ f j = some a)
  | none => False
def wOk (ws : va_W) : Prop := ead ws = ad ∧ so.length = ad.length ∧ ∀ (o t : Nat) (q : Nat × va_E), ws[o]? = some q → so[o]? = some t → eOk so ad tys ST t q.2 ∧ xE t q.2
/-- the rows of the books -/
def jRow (ws : va_W) (i : Nat) (cs : List (Nat × Nat × Nat × Nat)) (bx : List (Int × Int)) : Prop := cs.length = bx.length ∧ ∀ (c : Nat) (q : Nat × Nat × Nat × Nat) (w : Int × Int), cs[c]? = some q → bx[c]? = some w → ∀ (o : Nat) (z : Int32), so[o]? = some q.2.1 → gcv ws o (q.2.2.1 * i + q.2.2.2) = some (.int z) → w.1 ≤ z.toInt ∧ z.toInt ≤ w.2
def jOk (ws : va_W) : Prop := ∀ J ∈ JL, ∀ (o : Nat) (y : Int32), so[o]? = some J.1 → gcv ws o J.2.1 = some (.int y) → ∀ i : Nat, (i : Int) < y.toInt → ∃ bx ∈ J.2.2.2, jRow so ws i J.2.2.1 bx
def fRel (md : aMd) (ws0 ws : va_W) : Prop := ∀ o t i : Nat, so[o]? = some t → (∀ q ∈ md, ¬ (q.1 = t ∧ q.2.1 ≤ i ∧ i < q.2.2)) → gcv ws o i = gcv ws0 o i
variable (ρ : Nat → Int) (ρr : Nat → Nat)
def vRel (n nr : Nat) (v : aV) (x : Value) : Prop := match v with
  | .inl q => q.1 < n ∧ ∃ z : Int32, x = .int z ∧ z.toInt = ρ q.1 + q.2
  | .inr (.inl r) => r < nr ∧ ∃ a, ad[ρr r]? = some a ∧ x = .ref a
  | .inr (.inr 0) => ∃ z : Int64, x = .long z
  | .inr (.inr (_ + 1)) => x = .ref b
def cOk (n k : Nat) (q : aC) : Prop := q.1 ≤ ρ k ∧ ρ k ≤ q.2.1 ∧ q.2.2.1.1 < n ∧ ρ q.2.2.1.1 + q.2.2.1.2 ≤ ρ k ∧ (¬ q.2.2.2.2 = 0 → q.2.2.2.1 < n ∧ ρ k = (q.2.2.2.2 : Int) * ρ q.2.2.2.1)
def cSat (n : Nat) (cs : List aC) : Prop := 0 < n ∧ cs.length = n ∧ ρ 0 = 0 ∧ ∀ (k : Nat) (q : aC), acs n cs k = some q → cOk ρ n k q
def rSat (nr : Nat) (rs : List Nat) : Prop := rs.length = nr ∧ ∀ (r t : Nat), r < nr → rs[nr - 1 - r]? = some t → so[ρr r]? = some t
def mRel (n nr : Nat) (ws : va_W) (e : aE) : Prop := e.1 < nr ∧ so[ρr e.1]? = some e.2.1 ∧ e.2.2.1.1 < n ∧ ∃ (i : Nat) (x : Value), (i : Int) = ρ e.2.2.1.1 + e.2.2.1.2 ∧ gcv ws (ρr e.1) i = some x ∧ vRel b ad ρ ρr n nr e.2.2.2 x
def hRel (md : aMd) (ws0 ws : va_W) : Prop := wOk so ad tys ST ws ∧ jOk so JL ws ∧ fRel so md ws0 ws
def aRel (md : aMd) (ws0 : va_W) (A : aA) (ws : va_W) : Prop := cSat ρ A.1 A.2.1 ∧ rSat so ρr A.2.2.1 A.2.2.2.1 ∧ hRel so ad tys ST JL md ws0 ws ∧ ∀ e ∈ A.2.2.2.2, mRel b so ad ρ ρr A.1 A.2.2.1 ws e
end AD
def aExt (n nr : Nat) (ρ : Nat → Int) (ρr : Nat → Nat) (ρ2 : Nat → Int) (ρr2 : Nat → Nat) : Prop := (∀ k, k < n → ρ2 k = ρ k) ∧ ∀ r, r < nr → ρr2 r = ρr r
def aUp (A : aA) (ρ : Nat → Int) (ρr : Nat → Nat) (A2 : aA) (ρ2 : Nat → Int) (ρr2 : Nat → Nat) : Prop := A.1 ≤ A2.1 ∧ A.2.2.1 ≤ A2.2.2.1 ∧ aExt A.1 A.2.2.1 ρ ρr ρ2 ρr2
theorem aUp.refl {A : aA} {ρ : Nat → Int} {ρr : Nat → Nat} : aUp A ρ ρr A ρ ρr := ⟨Nat.le_refl _, Nat.le_refl _, fun _ _ => rfl, fun _ _ => rfl⟩
theorem aUp.trans {A A2 A3 : aA} {ρ ρ2 ρ3 : Nat → Int} {ρr ρr2 ρr3 : Nat → Nat} (h : aUp A ρ ρr A2 ρ2 ρr2) (g : aUp A2 ρ2 ρr2 A3 ρ3 ρr3) : aUp A ρ ρr A3 ρ3 ρr3 :=
  ⟨Nat.le_trans h.1 g.1, Nat.le_trans h.2.1 g.2.1, fun k hk => by rw [g.2.2.1 k (Nat.lt_of_lt_of_le hk h.1), h.2.2.1 k hk], fun r hr => by rw [g.2.2.2 r (Nat.lt_of_lt_of_le hr h.2.1), h.2.2.2 r hr]⟩
/-- the same symbols, other bounds or cells -/
theorem aUp.same {A A2 : aA} {ρ : Nat → Int} {ρr : Nat → Nat} (h1 : A2.1 = A.1) (h2 : A2.2.2.1 = A.2.2.1) : aUp A ρ ρr A2 ρ ρr := ⟨by rw [h1]; exact Nat.le_refl _, by rw [h2]; exact Nat.le_refl _, fun _ _ => rfl, fun _ _ => rfl⟩
section AL
variable {b : Nat} {so ad : List Nat} {tys : List (ClassId × FieldType)} {ST : Nat → Option aS} {JL : List aJ} {ρ ρ2 : Nat → Int} {ρr ρr2 : Nat → Nat} {md : aMd} {ws0 ws : va_W} {A A2 : aA}
theorem vRel_up {n nr n2 nr2 : Nat} (h1 : n ≤ n2) (h2 : nr ≤ nr2) (h : aExt n nr ρ ρr ρ2 ρr2) {v : aV} {x : Value} (hv : vRel b ad ρ ρr n nr v x) : vRel b ad ρ2 ρr2 n2 nr2 v x := by
  rcases v with q | r | m
  · obtain ⟨h3, z, h4, h5⟩ := hv
    exact ⟨Nat.lt_of_lt_of_le h3 h1, z, h4, by rw [h.1 _ h3]; exact h5⟩
  · obtain ⟨h3, a, h4, h5⟩ := hv
    exact ⟨Nat.lt_of_lt_of_le h3 h2, a, by rw [h.2 _ h3]; exact h4, h5⟩
  · match m, hv with
    | 0, hv => exact hv
    | _ + 1, hv => exact hv
theorem mRel_up {n nr n2 nr2 : Nat} (h1 : n ≤ n2) (h2 : nr ≤ nr2) (h : aExt n nr ρ ρr ρ2 ρr2) {e : aE} (hv : mRel b so ad ρ ρr n nr ws e) : mRel b so ad ρ2 ρr2 n2 nr2 ws e := by
  obtain ⟨g1, g2, g3, i, x, g4, g5, g6⟩ := hv
  exact ⟨Nat.lt_of_lt_of_le g1 h2, by rw [h.2 _ g1]; exact g2, Nat.lt_of_lt_of_le g3 h1, i, x, by rw [h.1 _ g3]; exact g4, by rw [h.2 _ g1]; exact g5, vRel_up h1 h2 h g6⟩
theorem vRel_int {n nr : Nat} {q : Nat × Int} {x : Value} (h : vRel b ad ρ ρr n nr (.inl q) x) : ∃ z : Int32, x = .int z ∧ z.toInt = ρ q.1 + q.2 := h.2
theorem vRel_cat {n nr : Nat} {v : aV} {x : Value} (h : vRel b ad ρ ρr n nr v x) : x.category = acat v := by
  rcases v with q | r | m
  · obtain ⟨-, z, rfl, -⟩ := h
    rfl
  · obtain ⟨-, a, -, rfl⟩ := h
    rfl
  · match m, h with
    | 0, ⟨z, h⟩ => rw [h]; rfl
    | _ + 1, h =>
      have h : x = .ref b := h
      rw [h]; rfl
/-- bounds -/
theorem acs_lt {n k : Nat} {cs : List aC} {q : aC} (h : acs n cs k = some q) : k < n ∧ cs[n - 1 - k]? = some q := by
  unfold acs at h
  cases hb : Nat.blt k n with
  | false => rw [hb] at h; cases h
  | true =>
    rw [hb, cond_true, eg_eq] at h
    exact ⟨Nat.le_of_ble_eq_true hb, h⟩
theorem imx_ge (a b : Int) : a ≤ imx a b ∧ b ≤ imx a b := by
  unfold imx
  cases h : ile a b with
  | true => rw [cond_true]; exact ⟨(ile_iff _ _).mp h, Int.le_refl _⟩
  | false =>
    rw [cond_false]
    have : ¬ a ≤ b := fun z => by rw [(ile_iff _ _).mpr z] at h; cases h
    exact ⟨Int.le_refl _, by omega⟩
theorem imn_le (a b : Int) : imn a b ≤ a ∧ imn a b ≤ b := by
  unfold imn
  cases h : ile a b with
  | true => rw [cond_true]; exact ⟨Int.le_refl _, (ile_iff _ _).mp h⟩
  | false =>
    rw [cond_false]
    have : ¬ a ≤ b := fun z => by rw [(ile_iff _ _).mpr z] at h; cases h
    exact ⟨by omega, Int.le_refl _⟩
theorem imx_le {a b c : Int} (h1 : a ≤ c) (h2 : b ≤ c) : imx a b ≤ c := by
  unfold imx
  cases ile a b with
  | true => exact h2
  | false => exact h1
theorem imn_ge {a b c : Int} (h1 : c ≤ a) (h2 : c ≤ b) : c ≤ imn a b := by
  unfold imn
  cases ile a b with
  | true => exact h1
  | false => exact h2
theorem abd_ok (hs : cSat ρ A.1 A.2.1) {v : Nat × Int} {kk : Int → Int → Bool} (h : abd A v kk = true) : ∃ lo hi, kk lo hi = true ∧ lo ≤ ρ v.1 + v.2 ∧ ρ v.1 + v.2 ≤ hi := by
  obtain ⟨k, c⟩ := v
  unfold abd at h
  cases k with
  | zero =>
    refine ⟨c, c, h, ?_, ?_⟩ <;> (show _ ≤ _; rw [hs.2.2.1]; omega)
  | succ k =>
    dsimp only at h
    cases hq : acs A.1 A.2.1 (k + 1) with
    | none => rw [hq] at h; cases h
    | some q =>
      rw [hq] at h
      obtain ⟨c1, c2, c3, c4, c5⟩ := hs.2.2.2 _ _ hq
      dsimp only at h
      cases hm : q.2.2.2.2 with
      | zero =>
        rw [hm] at h
        dsimp only at h
        rw [efI_eq, efI_eq] at h
        exact ⟨_, _, h, by show q.1 + c ≤ ρ (k + 1) + c; omega, by show ρ (k + 1) + c ≤ _; omega⟩
      | succ m =>
        rw [hm] at h
        dsimp only at h
        cases hw : acs A.1 A.2.1 q.2.2.2.1 with
        | none => rw [hw] at h; cases h
        | some w =>
          rw [hw] at h
          dsimp only at h
          rw [efI_eq, efI_eq] at h
          obtain ⟨d1, d2, -⟩ := hs.2.2.2 _ _ hw
          have c5 := (c5 (by omega)).2
          rw [hm] at c5
          have e1 : Int.ofNat (m + 1) * w.1 ≤ ρ (k + 1) := by rw [c5]; exact Int.mul_le_mul_of_nonneg_left d1 (Int.natCast_nonneg _)
          have e2 : ρ (k + 1) ≤ Int.ofNat (m + 1) * w.2.1 := by rw [c5]; exact Int.mul_le_mul_of_nonneg_left d2 (Int.natCast_nonneg _)
          have f1 := imx_le c1 e1
          have f2 := imn_ge c2 e2
          exact ⟨_, _, h, by show _ ≤ ρ (k + 1) + c; omega, by show ρ (k + 1) + c ≤ _; omega⟩
/-- a new symbol -/
def nwi (ρ : Nat → Int) (n : Nat) (z : Int) : Nat → Int := fun k => if k = n then z else ρ k
theorem nwi_ext {n nr : Nat} {z : Int} : aExt n nr ρ ρr (nwi ρ n z) ρr := ⟨fun k hk => if_neg (by omega), fun _ _ => rfl⟩
theorem cOk_ext {n n2 k : Nat} {q : aC} (h2 : n ≤ n2) (hk : k < n) (h : ∀ k, k < n → ρ2 k = ρ k) (hc : cOk ρ n k q) : cOk ρ2 n2 k q := by
  obtain ⟨c1, c2, c3, c4, c5⟩ := hc
  refine ⟨by rw [h _ hk]; exact c1, by rw [h _ hk]; exact c2, Nat.lt_of_lt_of_le c3 h2, by rw [h _ hk, h _ c3]; exact c4, fun z => ?_⟩
  obtain ⟨d1, d2⟩ := c5 z
  exact ⟨Nat.lt_of_lt_of_le d1 h2, by rw [h _ hk, h _ d1]; exact d2⟩
theorem anewd_ok (hR : aRel b so ad tys ST JL ρ ρr md ws0 A ws) {lo hi : Int} {pb : Nat} {pc : Int} {df : Nat × Nat} {kk : aV → aA → Bool} (h : anewd A lo hi pb pc df kk = true) {z : Int} (h1 : lo ≤ z) (h2 : z ≤ hi) (h3 : pb < A.1) (h4 : ρ pb + pc ≤ z) (h5 : ¬ df.2 = 0 → df.1 < A.1 ∧ z = (df.2 : Int) * ρ df.1) :
    ∃ (A2 : aA) (ρ2 : Nat → Int), kk (.inl (A.1, 0)) A2 = true ∧ aUp A ρ ρr A2 ρ2 ρr ∧ aRel b so ad tys ST JL ρ2 ρr md ws0 A2 ws ∧ A.1 < A2.1 ∧ ρ2 A.1 = z := by
  obtain ⟨n, cs, nr, rs, hm⟩ := A
  unfold anewd at h
  dsimp only at h h3
  rw [efI_eq, efI_eq, ef_eq] at h
  obtain ⟨⟨s1, s2, s3, s4⟩, hr, hh, hmm⟩ := hR
  dsimp only at s1 s2 s4 hr hmm
  have he : aExt n nr ρ ρr (nwi ρ n z) ρr := nwi_ext
  refine ⟨_, nwi ρ n z, h, ⟨Nat.le_succ n, Nat.le_refl nr, he⟩, ⟨⟨Nat.succ_pos n, ?_, ?_, ?_⟩, hr, hh, fun e hq => mRel_up (Nat.le_succ n) (Nat.le_refl nr) he (hmm e hq)⟩, Nat.lt_succ_self n, if_pos rfl⟩
  · show (_ :: cs).length = n + 1
    rw [List.length_cons, s2]
  · rw [he.1 0 s1]; exact s3
  · intro k q hq
    obtain ⟨g1, g2⟩ := acs_lt hq
    show cOk _ (n + 1) k q
    by_cases hk : k = n
    · subst hk
      rw [show k + 1 - 1 - k = 0 by omega, List.getElem?_cons_zero] at g2
      cases g2
      have e1 : nwi ρ k z k = z := if_pos rfl
      refine ⟨by rw [e1]; exact h1, by rw [e1]; exact h2, Nat.lt_succ_of_lt h3, by rw [e1, he.1 pb h3]; exact h4, fun q => ?_⟩
      obtain ⟨d1, d2⟩ := h5 q
      exact ⟨Nat.lt_succ_of_lt d1, by rw [e1, he.1 _ d1]; exact d2⟩
    · have hk : k < n := by omega
      rw [show n + 1 - 1 - k = (n - 1 - k) + 1 by omega, List.getElem?_cons_succ] at g2
      refine cOk_ext (Nat.le_succ n) hk he.1 (s4 k q ?_)
      unfold acs
      rw [show Nat.blt k n = true from Nat.ble_eq_true_of_le hk, cond_true, eg_eq]
      exact g2
end AL
