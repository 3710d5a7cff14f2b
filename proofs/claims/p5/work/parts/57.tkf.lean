/-! what the exact walks with longs share -/
noncomputable section
def zGL (E : zE) (J : List aJ) (md : aMd) (w : va_W) (mi : eM) (pc : Nat) (ls : List (Nat × vVL)) (σ : vS) (K : vKL) : Prop := VGL E.1 E.2.1 E.2.2.1 E.2.2.2.1 E.2.2.2.2.1 E.2.2.2.2.2.1 E.2.2.2.2.2.2.1 E.2.2.2.2.2.2.2.1 E.2.2.2.2.2.2.2.2.1 E.2.2.2.2.2.2.2.2.2.1 E.2.2.2.2.2.2.2.2.2.2.1 (zso E) (zad E) gST J md w zuq mi pc ls [] σ K
def zspL (L : List (Nat × vSpL)) (n : Nat) : Option vSpL := List.rec none (fun q _ ih => bif Nat.beq q.1 n then some q.2 else ih) L
/-- a call's words are right -/
def zOKL (E : zE) (J : List aJ) (md : aMd) (w : va_W) (m : Nat) (sp : vSpL) : Prop := ∀ q, gMT m = some q → ∀ vs σ K, sp vs σ K → zGL E J md w q.1 0 (vargsL vs 0) σ K
def zSL (E : zE) (J : List aJ) (md : aMd) (w : va_W) (L : List (Nat × vSpL)) : Prop := ∀ p ∈ L, zOKL E J md w p.1 p.2
abbrev zGoL (KX : Nat → Nat → Option Int) (E : zE) (J : List aJ) (md : aMd) (w : va_W) (L : List (Nat × vSpL)) (wd : List Nat) (C : List (Nat × List Nat)) (m0 : eM → Bool) (mi : eM) (pc : Nat) (ls : List (Nat × vVL)) (σ : vS) (K : vKL) : Prop := vGoL gFL gCL gMT gKI KX gST J md zuq (zspL L) (zGL E J md w) wd C m0 1000 mi pc ls σ K
end
theorem zsp_okL {L : List (Nat × vSpL)} {n : Nat} {sp : vSpL} (h : zspL L n = some sp) : (n, sp) ∈ L := by
  induction L with
  | nil => cases h
  | cons q r ih =>
    have h : (bif Nat.beq q.1 n then some q.2 else zspL r n) = some sp := h
    cases hb : Nat.beq q.1 n with
    | true =>
      rw [hb, cond_true] at h
      cases h
      rw [← Nat.eq_of_beq_eq_true hb]
      exact List.mem_cons_self
    | false =>
      rw [hb, cond_false] at h
      exact List.mem_cons_of_mem _ (ih h)
section ZE
variable {E : zE} {J : List aJ} {md : aMd} {w : va_W} {L : List (Nat × vSpL)} {mi : eM} {pc : Nat} {ls : List (Nat × vVL)} {σ : vS} {K : vKL}
theorem zgoL {KX : Nat → Nat → Option Int} (X : xJOK E.2.2.2.2.2.2.2.1 E.2.2.2.2.2.2.2.2.2.2.1 KX) (B : zB E) (S : zSL E J md w L) (wd : List Nat) (C : List (Nat × List Nat)) (m0 : eM → Bool) (hlen : elens mi = true) (h : zGoL KX E J md w L wd C m0 mi pc ls σ K) : zGL E J md w mi pc ls σ K := by
  obtain ⟨b1, b2, b3, b4, b5, b6, b7, b8⟩ := B
  refine v_goL (SP := zspL L) ⟨b1, b2, b3, b4, b5, X, b7, ?_⟩ wd C m0 1000 (fun q hq => List.all_eq_true.mp hlen q hq) h
  intro mno q sp hq hsp vs σ K hv
  exact S _ (zsp_okL hsp) q hq vs σ K hv
theorem zbdL (h : vBdL (zso E) gST zuq σ → zGL E J md w mi pc ls σ K) : zGL E J md w mi pc ls σ K := VG_bdL h
theorem zmonoL {K2 : vKL} (hk : ∀ ret σ, vBdL (zso E) gST zuq σ → K ret σ → K2 ret σ) (h : zGL E J md w mi pc ls σ K) : zGL E J md w mi pc ls σ K2 := VG_monoL hk h
theorem zbL (B : zB E) (hb : vBdL (zso E) gST zuq σ) {t a n : Nat} {lo hi : Int} (hk : zchk t a n lo hi = true) {i : Int} (h1 : (a : Int) ≤ i) (h2 : i < (n : Int)) : lo ≤ σ t i ∧ σ t i ≤ hi := by
  unfold zchk at hk
  rw [Bool.and_eq_true] at hk
  obtain ⟨hu, hk⟩ := hk
  split at hk
  · rename_i ob hob
    rw [Bool.and_eq_true, Bool.and_eq_true] at hk
    obtain ⟨k1, k2, k3⟩ := hk
    have k1 : ob.1 < 3 := Nat.le_of_ble_eq_true k1
    have k2 := Nat.le_of_ble_eq_true k2
    have hj : i.toNat < n := by omega
    have k3 := List.all_eq_true.mp k3 i.toNat (List.mem_range.mpr hj)
    rw [Bool.or_eq_true] at k3
    obtain ⟨q, g1, g2⟩ := (hb t hu (B.2.2.2.2.2.2.2 t hu)).2 ob hob k1 i.toNat (by omega)
    rw [g1] at k3
    have e : ((i.toNat : Nat) : Int) = i := by omega
    rw [e] at g2
    rcases k3 with k3 | k3
    · have : i.toNat < a := Nat.le_of_ble_eq_true k3
      omega
    · have k3 : (ieq q.1 lo && ieq q.2 hi) = true := k3
      rw [Bool.and_eq_true, ieq_iff, ieq_iff] at k3
      rw [← k3.1, ← k3.2]
      exact g2
  · cases hk
theorem zfL (B : zB E) (hb : vBdL (zso E) gST zuq σ) {t f : Nat} {lo hi : Int} (hk : zchf t f lo hi = true) : lo ≤ σ t (f : Int) ∧ σ t (f : Int) ≤ hi := by
  unfold zchf at hk
  rw [Bool.and_eq_true] at hk
  obtain ⟨hu, hk⟩ := hk
  split at hk
  · rename_i ob hob
    split at hk
    · rename_i q hq
      rw [Bool.and_eq_true, ieq_iff, ieq_iff] at hk
      rw [← hk.1, ← hk.2]
      exact (hb t hu (B.2.2.2.2.2.2.2 t hu)).1 ob hob f q hq
    · cases hk
  · cases hk
theorem zS_nilL : zSL E J md w [] := fun p hp => absurd hp List.not_mem_nil
theorem zS_consL {m : Nat} {sp : vSpL} (h : zOKL E J md w m sp) (t : zSL E J md w L) : zSL E J md w ((m, sp) :: L) := fun p hp => by
  rcases List.mem_cons.mp hp with rfl | hp
  · exact h
  · exact t p hp
end ZE
