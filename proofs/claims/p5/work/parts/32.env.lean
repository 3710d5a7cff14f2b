/-! what the exact walks share -/
noncomputable section
/-- the things that are one each: the reference and its rows -/
def zuq (t : Nat) : Bool := Nat.beq t 12 || (Nat.ble 51 t && Nat.ble t 76)
def gJ1 : List aJ := match gjl with
  | J :: _ => [J]
  | [] => []
abbrev zE : Type := Nat × Nat × Nat × (Nat → Int32) × va_G × List vw_C × List (ClassId × FieldType) × List Cond × (State → Prop) × Launch × (Nat → String) × List Nat × List Nat
abbrev zso (E : zE) : List Nat := E.2.2.2.2.2.2.2.2.2.2.2.1
abbrev zad (E : zE) : List Nat := E.2.2.2.2.2.2.2.2.2.2.2.2
def zG (E : zE) (J : List aJ) (md : aMd) (w : va_W) (mi : eM) (pc : Nat) (ls : List (Nat × vV)) (σ : vS) (K : vK) : Prop := VG E.1 E.2.1 E.2.2.1 E.2.2.2.1 E.2.2.2.2.1 E.2.2.2.2.2.1 E.2.2.2.2.2.2.1 E.2.2.2.2.2.2.2.1 E.2.2.2.2.2.2.2.2.1 E.2.2.2.2.2.2.2.2.2.1 E.2.2.2.2.2.2.2.2.2.2.1 (zso E) (zad E) gST J md w zuq mi pc ls [] σ K
def zH (E : zE) (J : List aJ) (q : eM × Nat) (c : aCon) : Prop := cHolds E.1 E.2.1 E.2.2.1 E.2.2.2.1 E.2.2.2.2.1 E.2.2.2.2.2.1 E.2.2.2.2.2.2.1 E.2.2.2.2.2.2.2.1 E.2.2.2.2.2.2.2.2.1 E.2.2.2.2.2.2.2.2.2.1 E.2.2.2.2.2.2.2.2.2.2.1 (zso E) (zad E) gST J q c
/-- what the tables rest on -/
def zB (E : zE) : Prop := (∀ w ∈ E.2.2.2.2.2.2.2.1, goodWord w = true) ∧ eNFw E.2.1 E.2.2.2.2.2.2.2.2.1 ∧ eFOK E.2.2.2.2.2.1 E.2.2.2.2.2.2.2.1 E.2.2.2.2.2.2.2.2.2.2.1 gFL ∧ gCok E.2.2.2.2.2.1 E.2.2.2.2.2.2.2.1 E.2.2.2.2.2.2.2.2.1 E.2.2.2.2.2.2.2.2.2.2.1 gCL gMT ∧ eKOK E.2.2.2.2.2.2.2.1 E.2.2.2.2.2.2.2.2.2.2.1 gKI ∧ eJOK E.2.2.2.2.2.2.2.1 E.2.2.2.2.2.2.2.2.2.2.1 gKL
  ∧ (∀ t, zuq t = true → ∀ o o2 : Nat, (zso E)[o]? = some t → (zso E)[o2]? = some t → o = o2) ∧ ∀ t, zuq t = true → ∃ o : Nat, (zso E)[o]? = some t
def zsp (L : List (Nat × vSp)) (n : Nat) : Option vSp := List.rec none (fun q _ ih => bif Nat.beq q.1 n then some q.2 else ih) L
/-- a call's words are right -/
def zOK (E : zE) (J : List aJ) (md : aMd) (w : va_W) (m : Nat) (sp : vSp) : Prop := ∀ q, gMT m = some q → ∀ vs σ K, sp vs σ K → zG E J md w q.1 0 (vargs vs 0) σ K
def zS (E : zE) (J : List aJ) (md : aMd) (w : va_W) (L : List (Nat × vSp)) : Prop := ∀ p ∈ L, zOK E J md w p.1 p.2
abbrev zGo (E : zE) (J : List aJ) (md : aMd) (w : va_W) (L : List (Nat × vSp)) (wd : List Nat) (C : List (Nat × List Nat)) (m0 : eM → Bool) (mi : eM) (pc : Nat) (ls : List (Nat × vV)) (σ : vS) (K : vK) : Prop := vGo gFL gCL gMT gKI gKL gST J md zuq (zsp L) (zG E J md w) wd C m0 1000 mi pc ls σ K
end
theorem zsp_ok {L : List (Nat × vSp)} {n : Nat} {sp : vSp} (h : zsp L n = some sp) : (n, sp) ∈ L := by
  induction L with
  | nil => cases h
  | cons q r ih =>
    have h : (bif Nat.beq q.1 n then some q.2 else zsp r n) = some sp := h
    cases hb : Nat.beq q.1 n with
    | true =>
      rw [hb, cond_true] at h
      cases h
      rw [← Nat.eq_of_beq_eq_true hb]
      exact List.mem_cons_self
    | false =>
      rw [hb, cond_false] at h
      exact List.mem_cons_of_mem _ (ih h)
section ZE
variable {E : zE} {J : List aJ} {md : aMd} {w : va_W} {L : List (Nat × vSp)} {mi : eM} {pc : Nat} {ls : List (Nat × vV)} {σ : vS} {K : vK}
def elens (mi : eM) : Bool := mi.2.2.2.2.2.2.all fun q => elen q.2.1 q.2.2
theorem zgo (B : zB E) (S : zS E J md w L) (wd : List Nat) (C : List (Nat × List Nat)) (m0 : eM → Bool) (hlen : elens mi = true) (h : zGo E J md w L wd C m0 mi pc ls σ K) : zG E J md w mi pc ls σ K := by
  obtain ⟨b1, b2, b3, b4, b5, b6, b7, b8⟩ := B
  refine v_go (SP := zsp L) ⟨b1, b2, b3, b4, b5, b6, b7, ?_⟩ wd C m0 1000 (fun q hq => List.all_eq_true.mp hlen q hq) h
  intro mno q sp hq hsp vs σ K hv
  exact S _ (zsp_ok hsp) q hq vs σ K hv
theorem zbd (h : vBd (zso E) gST zuq σ → zG E J md w mi pc ls σ K) : zG E J md w mi pc ls σ K := VG_bd h
theorem zmono {K2 : vK} (hk : ∀ ret σ, vBd (zso E) gST zuq σ → K ret σ → K2 ret σ) (h : zG E J md w mi pc ls σ K) : zG E J md w mi pc ls σ K2 := VG_mono hk h
/-- bounds -/
noncomputable def zchk (t a n : Nat) (lo hi : Int) : Bool := zuq t && (match gST t with
  | some (.inr ob) => Nat.blt ob.1 3 && (Nat.ble n ob.2.1 && (List.range n).all fun j => Nat.blt j a || (match rgAt ob.2.2.1 j with
    | some q => ieq q.1 lo && ieq q.2 hi
    | none => false))
  | _ => false)
theorem zb (B : zB E) (hb : vBd (zso E) gST zuq σ) {t a n : Nat} {lo hi : Int} (hk : zchk t a n lo hi = true) {i : Int} (h1 : (a : Int) ≤ i) (h2 : i < (n : Int)) : lo ≤ σ t i ∧ σ t i ≤ hi := by
  unfold zchk at hk
  rw [Bool.and_eq_true] at hk
  obtain ⟨hu, hk⟩ := hk
  split at hk
  · rename_i ob hob
    rw [Bool.and_eq_true, Bool.and_eq_true] at hk
    obtain ⟨k1, k2, k3⟩ := hk
    have k1 : ob.1 < 3 := Nat.le_of_ble_eq_true k1
    have k2 := Nat.le_of_ble_eq_true k2
    have hj : i.toNat < n := by omega
    have k3 := List.all_eq_true.mp k3 i.toNat (List.mem_range.mpr hj)
    rw [Bool.or_eq_true] at k3
    obtain ⟨q, g1, g2⟩ := (hb t hu (B.2.2.2.2.2.2.2 t hu)).2 ob hob k1 i.toNat (by omega)
    rw [g1] at k3
    have e : ((i.toNat : Nat) : Int) = i := by omega
    rw [e] at g2
    rcases k3 with k3 | k3
    · have : i.toNat < a := Nat.le_of_ble_eq_true k3
      omega
    · have k3 : (ieq q.1 lo && ieq q.2 hi) = true := k3
      rw [Bool.and_eq_true, ieq_iff, ieq_iff] at k3
      rw [← k3.1, ← k3.2]
      exact g2
  · cases hk
noncomputable def zchf (t f : Nat) (lo hi : Int) : Bool := zuq t && (match gST t with
  | some (.inl ob) => (match ob.2[f]? with
    | some (.inl q) => ieq q.1 lo && ieq q.2 hi
    | _ => false)
  | _ => false)
theorem zf (B : zB E) (hb : vBd (zso E) gST zuq σ) {t f : Nat} {lo hi : Int} (hk : zchf t f lo hi = true) : lo ≤ σ t (f : Int) ∧ σ t (f : Int) ≤ hi := by
  unfold zchf at hk
  rw [Bool.and_eq_true] at hk
  obtain ⟨hu, hk⟩ := hk
  split at hk
  · rename_i ob hob
    split at hk
    · rename_i q hq
      rw [Bool.and_eq_true, ieq_iff, ieq_iff] at hk
      rw [← hk.1, ← hk.2]
      exact (hb t hu (B.2.2.2.2.2.2.2 t hu)).1 ob hob f q hq
    · cases hk
  · cases hk
theorem zS_nil : zS E J md w [] := fun p hp => absurd hp List.not_mem_nil
theorem zS_cons {m : Nat} {sp : vSp} (h : zOK E J md w m sp) (t : zS E J md w L) : zS E J md w ((m, sp) :: L) := fun p hp => by
  rcases List.mem_cons.mp hp with rfl | hp
  · exact h
  · exact t p hp
end ZE
theorem rgm {n : Nat} {x b : Int} (h : -((n : Int) + 1) ≤ x ∧ x ≤ b) : Int.negSucc n ≤ x ∧ x ≤ b := by
  rw [Int.negSucc_eq]
  exact h
