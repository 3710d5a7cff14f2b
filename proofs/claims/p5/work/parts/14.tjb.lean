/-! THE EXACT WALK, what its words mean. -/
section VD
variable (b base LS : Nat) (xs : Nat → Int32) (D : va_G) (cl : List vw_C) (tys : List (ClassId × FieldType)) (Tb : List Cond) (NF : State → Prop) (l : Launch) (CN : Nat → String) (so ad : List Nat) (ST : Nat → Option aS) (JL : List aJ) (md : aMd) (ws0 : va_W) (uq : Nat → Bool)
/-- the world, but for what is kept of sentences -/
def wOk0 (ws : va_W) : Prop := ead ws = ad ∧ so.length = ad.length ∧ ∀ (o t : Nat) (q : Nat × va_E), ws[o]? = some q → so[o]? = some t → eOk so ad tys ST t q.2
def vsg (ws : va_W) (σ : vS) : Prop := ∀ (o t i : Nat) (z : Int32), so[o]? = some t → uq t = true → gcv ws o i = some (.int z) → z.toInt = σ t (i : Int)
def vW (ws : va_W) (σ : vS) : Prop := wOk0 tys so ad ST ws ∧ jOk so JL ws ∧ fRel so md ws0 ws ∧ vsg so uq ws σ
def vvR (v : vV) (x : Value) : Prop := match v with
  | .inl n => ∃ z : Int32, x = .int z ∧ z.toInt = n
  | .inr (.inl t) => ∃ o a : Nat, so[o]? = some t ∧ ad[o]? = some a ∧ x = .ref a
  | .inr (.inr _) => ∃ z : Int64, x = .long z
def vlR (ls : List (Nat × vV)) (lv : List (Nat × Value)) : Prop := ∀ q ∈ ls, ∃ x, (q.1, x) ∈ lv ∧ vvR so ad q.2 x
def vsR : List vV → List Value → Prop
  | [], [] => True
  | v :: vs, x :: xs => vvR so ad v x ∧ vsR vs xs
  | _, _ => False
def vRt (ret : Option vV) (rv : Option Value) : Prop := match ret, rv with
  | none, none => True
  | some v, some x => vvR so ad v x
  | _, _ => False
def vKo (K : vK) (Kg : gK) : Prop := ∀ (ret : Option vV) (σ : vS) (ws : va_W) (rv : Option Value), K ret σ → vW tys so ad ST JL md ws0 uq ws σ → vRt so ad ret rv → Kg rv ws
/-- from here the method comes to its end, and there K holds -/
def VG (mi : eM) (pc : Nat) (ls : List (Nat × vV)) (st : List vV) (σ : vS) (K : vK) : Prop := ∀ (Kg : gK) (lv : List (Nat × Value)) (stA : List Value) (ws : va_W), vW tys so ad ST JL md ws0 uq ws σ → vlR so ad ls lv → vsR so ad st stA → vKo tys so ad ST JL md ws0 uq K Kg → gG b base LS xs D cl tys Tb NF l CN mi pc lv stA ws 0 0 Kg
def vCd (mi : eM) (cd : List eI) : Prop := (∀ q ∈ cd, q ∈ mi.2.2.2.2.2.2) ∧ ∀ q ∈ mi.2.2.2.2.2.2, elen q.2.1 q.2.2 = true
def vSn (ih : vRn) : Prop := ∀ (mi : eM) (pc : Nat) (cd : List eI) (ls : List (Nat × vV)) (st : List vV) (σ : vS) (K : vK), ih mi pc cd ls st σ K → vCd mi cd → VG b base LS xs D cl tys Tb NF l CN so ad ST JL md ws0 uq mi pc ls st σ K
def vHs (h : vHd) (i : Instr) (len : Nat) : Prop := ∀ (ih : vRn), vSn b base LS xs D cl tys Tb NF l CN so ad ST JL md ws0 uq ih → ∀ (mi : eM) (pc : Nat) (cd : List eI) (ls : List (Nat × vV)) (st : List vV) (σ : vS) (K : vK), h ih mi pc cd ls st σ K → (pc, i, len) ∈ mi.2.2.2.2.2.2 → vCd mi cd → VG b base LS xs D cl tys Tb NF l CN so ad ST JL md ws0 uq mi pc ls st σ K
end VD
section VL
variable {b base LS : Nat} {xs : Nat → Int32} {D : va_G} {cl : List vw_C} {tys : List (ClassId × FieldType)} {Tb : List Cond} {NF : State → Prop} {l : Launch} {CN : Nat → String} {so ad : List Nat} {ST : Nat → Option aS} {JL : List aJ} {md : aMd} {ws0 : va_W} {uq : Nat → Bool}
theorem e_condP {c : Bool} {p : Prop} (h : bif c then p else False) : c = true ∧ p := by
  cases c with
  | true => exact ⟨rfl, h⟩
  | false => exact absurd h id
theorem vvR_cat {v : vV} {x : Value} (h : vvR so ad v x) : x.category = vcat v := by
  rcases v with q | r | m
  · obtain ⟨z, rfl, -⟩ := h
    rfl
  · obtain ⟨o, a, -, -, rfl⟩ := h
    rfl
  · obtain ⟨z, rfl⟩ := h
    rfl
theorem vsR_cons {v : vV} {vs : List vV} {xs : List Value} (h : vsR so ad (v :: vs) xs) : ∃ x t, xs = x :: t ∧ vvR so ad v x ∧ vsR so ad vs t := by
  cases xs with
  | nil => exact absurd h id
  | cons x t => exact ⟨x, t, rfl, h.1, h.2⟩
theorem vsR_nil {xs : List Value} (h : vsR so ad [] xs) : xs = [] := by
  cases xs with
  | nil => rfl
  | cons x t => exact absurd h id
theorem vsR_cats : ∀ {vs : List vV} {xs : List Value}, vsR so ad vs xs → (xs.map fun v => v.category).sum = vcats vs
  | [], [], _ => rfl
  | v :: vs, x :: xs, h => by
    rw [List.map_cons, List.sum_cons, vsR_cats h.2, vvR_cat h.1]
    rfl
  | [], _ :: _, h => absurd h id
  | _ :: _, [], h => absurd h id
theorem vl_mem {ls : List (Nat × vV)} {j : Nat} {v : vV} (h : vl ls j = some v) : (j, v) ∈ ls := by
  induction ls with
  | nil => cases h
  | cons q t ih =>
    have h : (bif Nat.beq q.1 j then some q.2 else vl t j) = some v := h
    cases hb : Nat.beq q.1 j with
    | true =>
      rw [hb, cond_true] at h
      cases h
      rw [← Nat.eq_of_beq_eq_true hb]
      exact List.mem_cons_self
    | false =>
      rw [hb, cond_false] at h
      exact List.mem_cons_of_mem _ (ih h)
theorem vlf_eq (p : Nat × vV → Bool) (ls : List (Nat × vV)) : ∀ k : List (Nat × vV) → Prop, vlf p ls k = k (ls.filter p) := by
  induction ls with
  | nil => intro k; rfl
  | cons q t ih =>
    intro k
    have e : vlf p (q :: t) k = bif p q then vlf p t (fun t => k (q :: t)) else vlf p t k := rfl
    rw [e, List.filter_cons]
    cases hp : p q with
    | true => rw [cond_true, ih]; rfl
    | false => rw [cond_false, ih]; rfl
theorem vlR_st {ls : List (Nat × vV)} {lv : List (Nat × Value)} (h : vlR so ad ls lv) {j : Nat} {v : vV} {x : Value} (hv : vvR so ad v x) : vlR so ad ((j, v) :: ls.filter (vlp j)) (gSt lv j x) := by
  intro q hq
  rcases List.mem_cons.mp hq with rfl | hq
  · exact ⟨x, List.mem_cons_self, hv⟩
  · obtain ⟨hq, hp⟩ := List.mem_filter.mp hq
    obtain ⟨y, g1, g2⟩ := h q hq
    refine ⟨y, List.mem_cons_of_mem _ (List.mem_filter.mpr ⟨g1, ?_⟩), g2⟩
    have hc := vvR_cat g2
    unfold vlp at hp
    cases h1 : Nat.beq q.1 j with
    | true => rw [h1] at hp; cases hp
    | false =>
      rw [h1, cond_false] at hp
      have n1 : ¬ q.1 = j := nbeq h1
      cases h2 : Nat.beq (q.1 + 1) j with
      | true =>
        rw [h2, cond_true] at hp
        have := Nat.eq_of_beq_eq_true hp
        simp [n1, hc, this]
      | false =>
        have n2 : ¬ q.1 + 1 = j := nbeq h2
        simp [n1, n2]
theorem vargs_ok : ∀ {vs : List vV} {xs : List Value} (i : Nat), vsR so ad vs xs → vlR so ad (vargs vs i) (lv_args i xs)
  | [], [], _, _ => fun q hq => absurd hq List.not_mem_nil
  | v :: vs, x :: xs, i, h => by
    intro q hq
    have hq : q ∈ (i, v) :: vargs vs (i + vcat v) := hq
    have hc := vvR_cat h.1
    have e : (if x.category = 2 then i + 2 else i + 1) = i + vcat v := by
      rcases lv_cat x with q | q
      · rw [if_neg (by omega), ← hc, q]
      · rw [if_pos q, ← hc, q]
    rcases List.mem_cons.mp hq with rfl | hq
    · exact ⟨x, List.mem_cons_self, h.1⟩
    · obtain ⟨y, g1, g2⟩ := vargs_ok (i + vcat v) h.2 q hq
      refine ⟨y, ?_, g2⟩
      show (q.1, y) ∈ (i, x) :: lv_args (if x.category = 2 then i + 2 else i + 1) xs
      rw [e]
      exact List.mem_cons_of_mem _ g1
  | [], _ :: _, _, h => absurd h id
  | _ :: _, [], _, h => absurd h id
theorem vtake_ok : ∀ (m : Nat) {st acc : List vV} {stA accA : List Value} {k : List vV → List vV → Prop}, vsR so ad st stA → vsR so ad acc accA → vtake m st acc k → ∃ vs r asx rx, k vs r ∧ vsR so ad vs asx ∧ vsR so ad r rx ∧ accA.reverse ++ stA = asx.reverse ++ rx ∧ asx.length = accA.length + m
  | 0, st, acc, stA, accA, k, h1, h2, h => ⟨acc, st, accA, stA, h, h2, h1, rfl, rfl⟩
  | m + 1, [], acc, stA, accA, k, h1, h2, h => absurd h id
  | m + 1, v :: st, acc, stA, accA, k, h1, h2, h => by
    obtain ⟨x, t, rfl, g1, g2⟩ := vsR_cons h1
    have h : vtake m st (v :: acc) k := h
    obtain ⟨vs, r, asx, rx, q1, q2, q3, q4, q5⟩ := vtake_ok m (acc := v :: acc) (accA := x :: accA) g2 ⟨g1, h2⟩ h
    refine ⟨vs, r, asx, rx, q1, q2, q3, ?_, ?_⟩
    · rw [← q4, List.reverse_cons, List.append_assoc]; rfl
    · rw [q5, List.length_cons]; omega
theorem vsel_ok {ls : List (Nat × vV)} {lv : List (Nat × Value)} (hl : vlR so ad ls lv) : ∀ {js : List Nat} {k : List (Nat × vV) → Prop}, vsel js ls k → ∃ t, k t ∧ vlR so ad t lv
  | [], k, h => ⟨[], h, fun q hq => absurd hq List.not_mem_nil⟩
  | j :: js, k, h => by
    have h : (match vl ls j with
      | some v => vsel js ls (fun t => k ((j, v) :: t))
      | none => False) := h
    split at h
    · rename_i v hv
      obtain ⟨t, g1, g2⟩ := vsel_ok hl h
      refine ⟨_, g1, fun q hq => ?_⟩
      rcases List.mem_cons.mp hq with rfl | hq
      · exact hl _ (vl_mem hv)
      · exact g2 q hq
    · exact absurd h id
theorem w0_at {ws : va_W} (hw : wOk0 tys so ad ST ws) {o t : Nat} (ht : so[o]? = some t) : ∃ a e, ws[o]? = some (a, e) ∧ ad[o]? = some a ∧ eOk so ad tys ST t e := by
  have hl : o < ad.length := by rw [← hw.2.1]; exact (List.getElem?_eq_some_iff.mp ht).1
  obtain ⟨a, ha⟩ : ∃ a, ad[o]? = some a := ⟨ad[o], List.getElem?_eq_getElem hl⟩
  have h := ha
  rw [← hw.1] at h
  obtain ⟨e, he⟩ := ead_at.mp h
  exact ⟨a, e, he, ha, hw.2.2 o t _ he ht⟩
theorem vr_at {ws : va_W} (hw : wOk0 tys so ad ST ws) {t : Nat} {x : Value} (hv : vvR so ad (.inr (.inl t)) x) : ∃ (o a : Nat) (e : va_E), x = .ref a ∧ ws[o]? = some (a, e) ∧ so[o]? = some t ∧ eOk so ad tys ST t e := by
  obtain ⟨o, a, h1, h2, rfl⟩ := hv
  obtain ⟨a2, e, g1, g2, g3⟩ := w0_at hw h1
  rw [h2] at g2
  cases g2
  exact ⟨o, a, e, rfl, g1, h1, g3⟩
theorem vjn_ok {t : Nat} {JL : List aJ} (h : vjn t JL = true) : ∀ J ∈ JL, ¬ J.1 = t ∧ ∀ q ∈ J.2.2.1, ¬ q.2.1 = t := by
  induction JL with
  | nil => exact fun J hJ => absurd hJ List.not_mem_nil
  | cons J r ih =>
    have h : (bif Nat.beq J.1 t || ajin t J.2.2.1 then false else vjn t r) = true := h
    cases hb : Nat.beq J.1 t || ajin t J.2.2.1 with
    | true => rw [hb] at h; cases h
    | false =>
      rw [hb, cond_false] at h
      rw [Bool.or_eq_false_iff] at hb
      intro J2 h2
      rcases List.mem_cons.mp h2 with rfl | h2
      · exact ⟨nbeq hb.1, ajin_no hb.2⟩
      · exact ih h J2 h2
theorem vjf_ok {t f : Nat} {JL : List aJ} (h : vjf t f JL = true) : ∀ J ∈ JL, ¬ (J.1 = t ∧ J.2.1 = f) ∧ ∀ q ∈ J.2.2.1, ¬ q.2.1 = t := by
  induction JL with
  | nil => exact fun J hJ => absurd hJ List.not_mem_nil
  | cons J r ih =>
    have h : (bif (Nat.beq J.1 t && Nat.beq J.2.1 f) || ajin t J.2.2.1 then false else vjf t f r) = true := h
    cases hb : (Nat.beq J.1 t && Nat.beq J.2.1 f) || ajin t J.2.2.1 with
    | true => rw [hb] at h; cases h
    | false =>
      rw [hb, cond_false] at h
      rw [Bool.or_eq_false_iff] at hb
      intro J2 h2
      rcases List.mem_cons.mp h2 with rfl | h2
      · refine ⟨fun hh => ?_, ajin_no hb.2⟩
        have h3 := hb.1
        rw [hh.1, hh.2, Nat.beq_refl, Nat.beq_refl] at h3
        cases h3
      · exact ih h J2 h2
theorem vjn_f {t : Nat} {JL : List aJ} (h : vjn t JL = true) (f : Nat) : ∀ J ∈ JL, ¬ (J.1 = t ∧ J.2.1 = f) ∧ ∀ q ∈ J.2.2.1, ¬ q.2.1 = t := fun J hJ => ⟨fun hh => (vjn_ok h J hJ).1 hh.1, (vjn_ok h J hJ).2⟩
/-- a write in a thing that is of no book, or of a field that counts no rows -/
theorem j_oth2 {ws : va_W} (h : jOk so JL ws) {o t a i0 : Nat} {e e2 : va_E} (hw : ws[o]? = some (a, e)) (ht : so[o]? = some t) (hc : ∀ i, ¬ i = i0 → gcl e2 i = gcl e i) (h1 : ∀ J ∈ JL, ¬ (J.1 = t ∧ J.2.1 = i0) ∧ ∀ q ∈ J.2.2.1, ¬ q.2.1 = t) : jOk so JL (ws.set o (a, e2)) := by
  intro J hJ o2 y ho2 hy i hi
  have e1 : gcv (ws.set o (a, e2)) o2 J.2.1 = gcv ws o2 J.2.1 := by
    rw [gcv_set hw]
    by_cases hq : o2 = o
    · subst hq
      rw [if_pos rfl, gcv_at hw]
      refine hc _ (fun hh => (h1 J hJ).1 ⟨?_, hh⟩)
      rw [ht] at ho2
      exact (Option.some.inj ho2).symm
    · rw [if_neg hq]
  rw [e1] at hy
  obtain ⟨bx, g1, g2, g3⟩ := h J hJ o2 y ho2 hy i hi
  refine ⟨bx, g1, g2, fun c q w hq hw2 o3 z ho3 hz => ?_⟩
  rw [gcv_set hw, if_neg] at hz
  · exact g3 c q w hq hw2 o3 z ho3 hz
  · rintro rfl
    rw [ht] at ho3
    exact (h1 J hJ).2 q (List.mem_of_getElem? hq) (Option.some.inj ho3).symm
theorem vMd_ok {t : Nat} {i : Int} : ∀ {md : aMd}, vMd md t i → ∃ q ∈ md, q.1 = t ∧ (q.2.1 : Int) ≤ i ∧ i < (q.2.2 : Int)
  | [], h => absurd h id
  | q :: r, h => by
    rcases h with h | h
    · exact ⟨q, List.mem_cons_self, h⟩
    · obtain ⟨w, g1, g2⟩ := vMd_ok h
      exact ⟨w, List.mem_cons_of_mem _ g1, g2⟩
theorem vmw_ok {t n : Nat} : ∀ {md : aMd}, vmw md t n = true → ∃ q ∈ md, q.1 = t ∧ q.2.1 = 0 ∧ n ≤ q.2.2
  | [], h => (nomatch h)
  | q :: r, h => by
    have h : (bif Nat.beq q.1 t && (Nat.beq q.2.1 0 && Nat.ble n q.2.2) then true else vmw r t n) = true := h
    cases hb : Nat.beq q.1 t && (Nat.beq q.2.1 0 && Nat.ble n q.2.2) with
    | true =>
      rw [Bool.and_eq_true, Bool.and_eq_true] at hb
      exact ⟨q, List.mem_cons_self, Nat.eq_of_beq_eq_true hb.1, Nat.eq_of_beq_eq_true hb.2.1, Nat.le_of_ble_eq_true hb.2.2⟩
    | false =>
      rw [hb, cond_false] at h
      obtain ⟨w, g1, g2⟩ := vmw_ok h
      exact ⟨w, List.mem_cons_of_mem _ g1, g2⟩
theorem yMd_ok {t n : Nat} {i : Int} {p : Prop} (h0 : 0 ≤ i) (h1 : i < (n : Int)) (h : yMd md t n i p) : (∃ q ∈ md, q.1 = t ∧ (q.2.1 : Int) ≤ i ∧ i < (q.2.2 : Int)) ∧ p := by
  unfold yMd at h
  cases hb : vmw md t n with
  | true =>
    rw [hb, cond_true] at h
    obtain ⟨q, g1, g2, g3, g4⟩ := vmw_ok hb
    exact ⟨⟨q, g1, g2, by omega, by omega⟩, h⟩
  | false =>
    rw [hb, cond_false] at h
    exact ⟨vMd_ok h.1, h.2⟩
theorem vRg_ok {rg : List (Nat × Int × Int)} {i x : Int} {j : Nat} {w : Int × Int} (h : vRg rg i x) (hi : i = (j : Int)) (hw : rgAt rg j = some w) : w.1 ≤ x ∧ x ≤ w.2 := by
  subst hi
  unfold vRg at h
  split at h
  · rename_i n lo hi
    unfold rgAt at hw
    split at hw
    · cases hw
      exact h
    · cases hw
  · exact h w (by rw [Int.toNat_natCast]; exact hw)
/-- a write -/
theorem v_wr {ws : va_W} {σ : vS} (hU : ∀ t, uq t = true → ∀ o o2 : Nat, so[o]? = some t → so[o2]? = some t → o = o2) (hR : vW tys so ad ST JL md ws0 uq ws σ) {o i0 t a : Nat} {e e2 : va_E} (hw : ws[o]? = some (a, e)) (ht : so[o]? = some t) (hE : eOk so ad tys ST t e2) (hc : ∀ i, ¬ i = i0 → gcl e2 i = gcl e i) (hj : ∀ J ∈ JL, ¬ (J.1 = t ∧ J.2.1 = i0) ∧ ∀ q ∈ J.2.2.1, ¬ q.2.1 = t) (hmd : ∃ q ∈ md, q.1 = t ∧ (q.2.1 : Int) ≤ (i0 : Int) ∧ (i0 : Int) < (q.2.2 : Int)) {σ2 : vS} (h1 : ∀ t2 j, ¬ (t2 = t ∧ j = (i0 : Int)) → σ2 t2 j = σ t2 j) (h2 : ∀ z : Int32, uq t = true → gcl e2 i0 = some (.int z) → z.toInt = σ2 t (i0 : Int)) : vW tys so ad ST JL md ws0 uq (ws.set o (a, e2)) σ2 := by
  obtain ⟨hW, hJ, hF, hs⟩ := hR
  refine ⟨⟨?_, hW.2.1, ?_⟩, j_oth2 hJ hw ht hc hj, ?_, ?_⟩
  · rw [ead_set hw]; exact hW.1
  · intro o2 t2 q hq ht2
    have hl : o < ws.length := (List.getElem?_eq_some_iff.mp hw).1
    by_cases ho : o2 = o
    · subst ho
      rw [List.getElem?_set_self hl] at hq
      cases hq
      rw [ht] at ht2
      cases ht2
      exact hE
    · rw [List.getElem?_set_ne (fun q => ho q.symm)] at hq
      exact hW.2.2 o2 t2 q hq ht2
  · intro o2 t2 i k1 k2
    rw [gcv_set hw, ← hF o2 t2 i k1 k2]
    by_cases ho : o2 = o
    · subst ho
      rw [if_pos rfl, gcv_at hw]
      refine hc i (fun q => ?_)
      subst q
      rw [ht] at k1
      cases k1
      obtain ⟨q, g1, g2, g3, g4⟩ := hmd
      exact k2 q g1 ⟨g2, by omega, by omega⟩
    · rw [if_neg ho]
  · intro o2 t2 i z ht2 hu hz
    rw [gcv_set hw] at hz
    by_cases ho : o2 = o
    · rw [if_pos ho] at hz
      subst ho
      rw [ht] at ht2
      cases ht2
      by_cases hi : i = i0
      · subst hi
        exact h2 z hu hz
      · rw [hc i hi, ← gcv_at hw] at hz
        rw [h1 _ _ (fun q => hi (by omega))]
        exact hs o2 t i z ht hu hz
    · rw [if_neg ho] at hz
      rw [h1 _ _ (fun q => ho (hU t2 hu _ _ ht2 (by rw [q.1]; exact ht)))]
      exact hs o2 t2 i z ht2 hu hz
end VL
