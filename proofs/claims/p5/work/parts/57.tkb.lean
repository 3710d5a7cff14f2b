/-! THE EXACT WALK, what its words mean. -/
section VD
variable (b base LS : Nat) (xs : Nat → Int32) (D : va_G) (cl : List vw_C) (tys : List (ClassId × FieldType)) (Tb : List Cond) (NF : State → Prop) (l : Launch) (CN : Nat → String) (so ad : List Nat) (ST : Nat → Option aS) (JL : List aJ) (md : aMd) (ws0 : va_W) (uq : Nat → Bool)
def vsgL (ws : va_W) (σ : vS) : Prop := (∀ (o t i : Nat) (z : Int32), so[o]? = some t → uq t = true → gcv ws o i = some (.int z) → z.toInt = σ t (i : Int)) ∧ ∀ (o t i : Nat) (z : Int64), so[o]? = some t → uq t = true → gcv ws o i = some (.long z) → z.toInt = σ t (i : Int)
def vWL (ws : va_W) (σ : vS) : Prop := wOk0 tys so ad ST ws ∧ jOk so JL ws ∧ fRel so md ws0 ws ∧ vsgL so uq ws σ
def vvRL (v : vVL) (x : Value) : Prop := match v with
  | .inl n => ∃ z : Int32, x = .int z ∧ z.toInt = n
  | .inr (.inl t) => ∃ o a : Nat, so[o]? = some t ∧ ad[o]? = some a ∧ x = .ref a
  | .inr (.inr n) => ∃ z : Int64, x = .long z ∧ z.toInt = n
def vlRL (ls : List (Nat × vVL)) (lv : List (Nat × Value)) : Prop := ∀ q ∈ ls, ∃ x, (q.1, x) ∈ lv ∧ vvRL so ad q.2 x
def vsRL : List vVL → List Value → Prop
  | [], [] => True
  | v :: vs, x :: xs => vvRL so ad v x ∧ vsRL vs xs
  | _, _ => False
def vRtL (ret : Option vVL) (rv : Option Value) : Prop := match ret, rv with
  | none, none => True
  | some v, some x => vvRL so ad v x
  | _, _ => False
def vKoL (K : vKL) (Kg : gK) : Prop := ∀ (ret : Option vVL) (σ : vS) (ws : va_W) (rv : Option Value), K ret σ → vWL tys so ad ST JL md ws0 uq ws σ → vRtL so ad ret rv → Kg rv ws
/-- from here the method comes to its end, and there K holds -/
def VGL (mi : eM) (pc : Nat) (ls : List (Nat × vVL)) (st : List vVL) (σ : vS) (K : vKL) : Prop := ∀ (Kg : gK) (lv : List (Nat × Value)) (stA : List Value) (ws : va_W), vWL tys so ad ST JL md ws0 uq ws σ → vlRL so ad ls lv → vsRL so ad st stA → vKoL tys so ad ST JL md ws0 uq K Kg → gG b base LS xs D cl tys Tb NF l CN mi pc lv stA ws 0 0 Kg
def vSnL (ih : vRnL) : Prop := ∀ (mi : eM) (pc : Nat) (cd : List eI) (ls : List (Nat × vVL)) (st : List vVL) (σ : vS) (K : vKL), ih mi pc cd ls st σ K → vCd mi cd → VGL b base LS xs D cl tys Tb NF l CN so ad ST JL md ws0 uq mi pc ls st σ K
def vHsL (h : vHdL) (i : Instr) (len : Nat) : Prop := ∀ (ih : vRnL), vSnL b base LS xs D cl tys Tb NF l CN so ad ST JL md ws0 uq ih → ∀ (mi : eM) (pc : Nat) (cd : List eI) (ls : List (Nat × vVL)) (st : List vVL) (σ : vS) (K : vKL), h ih mi pc cd ls st σ K → (pc, i, len) ∈ mi.2.2.2.2.2.2 → vCd mi cd → VGL b base LS xs D cl tys Tb NF l CN so ad ST JL md ws0 uq mi pc ls st σ K
end VD
section VL
variable {b base LS : Nat} {xs : Nat → Int32} {D : va_G} {cl : List vw_C} {tys : List (ClassId × FieldType)} {Tb : List Cond} {NF : State → Prop} {l : Launch} {CN : Nat → String} {so ad : List Nat} {ST : Nat → Option aS} {JL : List aJ} {md : aMd} {ws0 : va_W} {uq : Nat → Bool}
theorem vvR_catL {v : vVL} {x : Value} (h : vvRL so ad v x) : x.category = vcatL v := by
  rcases v with q | r | m
  · obtain ⟨z, rfl, -⟩ := h
    rfl
  · obtain ⟨o, a, -, -, rfl⟩ := h
    rfl
  · obtain ⟨z, rfl, -⟩ := h
    rfl
theorem vsR_consL {v : vVL} {vs : List vVL} {xs : List Value} (h : vsRL so ad (v :: vs) xs) : ∃ x t, xs = x :: t ∧ vvRL so ad v x ∧ vsRL so ad vs t := by
  cases xs with
  | nil => exact absurd h id
  | cons x t => exact ⟨x, t, rfl, h.1, h.2⟩
theorem vsR_nilL {xs : List Value} (h : vsRL so ad [] xs) : xs = [] := by
  cases xs with
  | nil => rfl
  | cons x t => exact absurd h id
theorem vsR_catsL : ∀ {vs : List vVL} {xs : List Value}, vsRL so ad vs xs → (xs.map fun v => v.category).sum = vcatsL vs
  | [], [], _ => rfl
  | v :: vs, x :: xs, h => by
    rw [List.map_cons, List.sum_cons, vsR_catsL h.2, vvR_catL h.1]
    rfl
  | [], _ :: _, h => absurd h id
  | _ :: _, [], h => absurd h id
theorem vl_memL {ls : List (Nat × vVL)} {j : Nat} {v : vVL} (h : vlL ls j = some v) : (j, v) ∈ ls := by
  induction ls with
  | nil => cases h
  | cons q t ih =>
    have h : (bif Nat.beq q.1 j then some q.2 else vlL t j) = some v := h
    cases hb : Nat.beq q.1 j with
    | true =>
      rw [hb, cond_true] at h
      cases h
      rw [← Nat.eq_of_beq_eq_true hb]
      exact List.mem_cons_self
    | false =>
      rw [hb, cond_false] at h
      exact List.mem_cons_of_mem _ (ih h)
theorem vlf_eqL (p : Nat × vVL → Bool) (ls : List (Nat × vVL)) : ∀ k : List (Nat × vVL) → Prop, vlfL p ls k = k (ls.filter p) := by
  induction ls with
  | nil => intro k; rfl
  | cons q t ih =>
    intro k
    have e : vlfL p (q :: t) k = bif p q then vlfL p t (fun t => k (q :: t)) else vlfL p t k := rfl
    rw [e, List.filter_cons]
    cases hp : p q with
    | true => rw [cond_true, ih]; rfl
    | false => rw [cond_false, ih]; rfl
theorem vlR_stL {ls : List (Nat × vVL)} {lv : List (Nat × Value)} (h : vlRL so ad ls lv) {j : Nat} {v : vVL} {x : Value} (hv : vvRL so ad v x) : vlRL so ad ((j, v) :: ls.filter (vlpL j)) (gSt lv j x) := by
  intro q hq
  rcases List.mem_cons.mp hq with rfl | hq
  · exact ⟨x, List.mem_cons_self, hv⟩
  · obtain ⟨hq, hp⟩ := List.mem_filter.mp hq
    obtain ⟨y, g1, g2⟩ := h q hq
    refine ⟨y, List.mem_cons_of_mem _ (List.mem_filter.mpr ⟨g1, ?_⟩), g2⟩
    have hc := vvR_catL g2
    unfold vlpL at hp
    cases h1 : Nat.beq q.1 j with
    | true => rw [h1] at hp; cases hp
    | false =>
      rw [h1, cond_false] at hp
      have n1 : ¬ q.1 = j := nbeq h1
      cases h2 : Nat.beq (q.1 + 1) j with
      | true =>
        rw [h2, cond_true] at hp
        have := Nat.eq_of_beq_eq_true hp
        simp [n1, hc, this]
      | false =>
        have n2 : ¬ q.1 + 1 = j := nbeq h2
        simp [n1, n2]
theorem vargs_okL : ∀ {vs : List vVL} {xs : List Value} (i : Nat), vsRL so ad vs xs → vlRL so ad (vargsL vs i) (lv_args i xs)
  | [], [], _, _ => fun q hq => absurd hq List.not_mem_nil
  | v :: vs, x :: xs, i, h => by
    intro q hq
    have hq : q ∈ (i, v) :: vargsL vs (i + vcatL v) := hq
    have hc := vvR_catL h.1
    have e : (if x.category = 2 then i + 2 else i + 1) = i + vcatL v := by
      rcases lv_cat x with q | q
      · rw [if_neg (by omega), ← hc, q]
      · rw [if_pos q, ← hc, q]
    rcases List.mem_cons.mp hq with rfl | hq
    · exact ⟨x, List.mem_cons_self, h.1⟩
    · obtain ⟨y, g1, g2⟩ := vargs_okL (i + vcatL v) h.2 q hq
      refine ⟨y, ?_, g2⟩
      show (q.1, y) ∈ (i, x) :: lv_args (if x.category = 2 then i + 2 else i + 1) xs
      rw [e]
      exact List.mem_cons_of_mem _ g1
  | [], _ :: _, _, h => absurd h id
  | _ :: _, [], _, h => absurd h id
theorem vtake_okL : ∀ (m : Nat) {st acc : List vVL} {stA accA : List Value} {k : List vVL → List vVL → Prop}, vsRL so ad st stA → vsRL so ad acc accA → vtakeL m st acc k → ∃ vs r asx rx, k vs r ∧ vsRL so ad vs asx ∧ vsRL so ad r rx ∧ accA.reverse ++ stA = asx.reverse ++ rx ∧ asx.length = accA.length + m
  | 0, st, acc, stA, accA, k, h1, h2, h => ⟨acc, st, accA, stA, h, h2, h1, rfl, rfl⟩
  | m + 1, [], acc, stA, accA, k, h1, h2, h => absurd h id
  | m + 1, v :: st, acc, stA, accA, k, h1, h2, h => by
    obtain ⟨x, t, rfl, g1, g2⟩ := vsR_consL h1
    have h : vtakeL m st (v :: acc) k := h
    obtain ⟨vs, r, asx, rx, q1, q2, q3, q4, q5⟩ := vtake_okL m (acc := v :: acc) (accA := x :: accA) g2 ⟨g1, h2⟩ h
    refine ⟨vs, r, asx, rx, q1, q2, q3, ?_, ?_⟩
    · rw [← q4, List.reverse_cons, List.append_assoc]; rfl
    · rw [q5, List.length_cons]; omega
theorem vsel_okL {ls : List (Nat × vVL)} {lv : List (Nat × Value)} (hl : vlRL so ad ls lv) : ∀ {js : List Nat} {k : List (Nat × vVL) → Prop}, vselL js ls k → ∃ t, k t ∧ vlRL so ad t lv
  | [], k, h => ⟨[], h, fun q hq => absurd hq List.not_mem_nil⟩
  | j :: js, k, h => by
    have h : (match vlL ls j with
      | some v => vselL js ls (fun t => k ((j, v) :: t))
      | none => False) := h
    split at h
    · rename_i v hv
      obtain ⟨t, g1, g2⟩ := vsel_okL hl h
      refine ⟨_, g1, fun q hq => ?_⟩
      rcases List.mem_cons.mp hq with rfl | hq
      · exact hl _ (vl_memL hv)
      · exact g2 q hq
    · exact absurd h id
theorem vr_atL {ws : va_W} (hw : wOk0 tys so ad ST ws) {t : Nat} {x : Value} (hv : vvRL so ad (.inr (.inl t)) x) : ∃ (o a : Nat) (e : va_E), x = .ref a ∧ ws[o]? = some (a, e) ∧ so[o]? = some t ∧ eOk so ad tys ST t e := by
  obtain ⟨o, a, h1, h2, rfl⟩ := hv
  obtain ⟨a2, e, g1, g2, g3⟩ := w0_at hw h1
  rw [h2] at g2
  cases g2
  exact ⟨o, a, e, rfl, g1, h1, g3⟩
/-- a write -/
theorem v_wrL {ws : va_W} {σ : vS} (hU : ∀ t, uq t = true → ∀ o o2 : Nat, so[o]? = some t → so[o2]? = some t → o = o2) (hR : vWL tys so ad ST JL md ws0 uq ws σ) {o i0 t a : Nat} {e e2 : va_E} (hw : ws[o]? = some (a, e)) (ht : so[o]? = some t) (hE : eOk so ad tys ST t e2) (hc : ∀ i, ¬ i = i0 → gcl e2 i = gcl e i) (hj : ∀ J ∈ JL, ¬ (J.1 = t ∧ J.2.1 = i0) ∧ ∀ q ∈ J.2.2.1, ¬ q.2.1 = t) (hmd : ∃ q ∈ md, q.1 = t ∧ (q.2.1 : Int) ≤ (i0 : Int) ∧ (i0 : Int) < (q.2.2 : Int)) {σ2 : vS} (h1 : ∀ t2 j, ¬ (t2 = t ∧ j = (i0 : Int)) → σ2 t2 j = σ t2 j) (h2 : ∀ z : Int32, uq t = true → gcl e2 i0 = some (.int z) → z.toInt = σ2 t (i0 : Int)) (h3 : ∀ z : Int64, uq t = true → gcl e2 i0 = some (.long z) → z.toInt = σ2 t (i0 : Int)) : vWL tys so ad ST JL md ws0 uq (ws.set o (a, e2)) σ2 := by
  obtain ⟨hW, hJ, hF, hs⟩ := hR
  refine ⟨⟨?_, hW.2.1, ?_⟩, j_oth2 hJ hw ht hc hj, ?_, ?_⟩
  · rw [ead_set hw]; exact hW.1
  · intro o2 t2 q hq ht2
    have hl : o < ws.length := (List.getElem?_eq_some_iff.mp hw).1
    by_cases ho : o2 = o
    · subst ho
      rw [List.getElem?_set_self hl] at hq
      cases hq
      rw [ht] at ht2
      cases ht2
      exact hE
    · rw [List.getElem?_set_ne (fun q => ho q.symm)] at hq
      exact hW.2.2 o2 t2 q hq ht2
  · intro o2 t2 i k1 k2
    rw [gcv_set hw, ← hF o2 t2 i k1 k2]
    by_cases ho : o2 = o
    · subst ho
      rw [if_pos rfl, gcv_at hw]
      refine hc i (fun q => ?_)
      subst q
      rw [ht] at k1
      cases k1
      obtain ⟨q, g1, g2, g3, g4⟩ := hmd
      exact k2 q g1 ⟨g2, by omega, by omega⟩
    · rw [if_neg ho]
  · constructor
    · intro o2 t2 i z ht2 hu hz
      rw [gcv_set hw] at hz
      by_cases ho : o2 = o
      · rw [if_pos ho] at hz
        subst ho
        rw [ht] at ht2
        cases ht2
        by_cases hi : i = i0
        · subst hi
          exact h2 z hu hz
        · rw [hc i hi, ← gcv_at hw] at hz
          rw [h1 _ _ (fun q => hi (by omega))]
          exact hs.1 o2 t i z ht hu hz
      · rw [if_neg ho] at hz
        rw [h1 _ _ (fun q => ho (hU t2 hu _ _ ht2 (by rw [q.1]; exact ht)))]
        exact hs.1 o2 t2 i z ht2 hu hz
    · intro o2 t2 i z ht2 hu hz
      rw [gcv_set hw] at hz
      by_cases ho : o2 = o
      · rw [if_pos ho] at hz
        subst ho
        rw [ht] at ht2
        cases ht2
        by_cases hi : i = i0
        · subst hi
          exact h3 z hu hz
        · rw [hc i hi, ← gcv_at hw] at hz
          rw [h1 _ _ (fun q => hi (by omega))]
          exact hs.2 o2 t i z ht hu hz
      · rw [if_neg ho] at hz
        rw [h1 _ _ (fun q => ho (hU t2 hu _ _ ht2 (by rw [q.1]; exact ht)))]
        exact hs.2 o2 t2 i z ht2 hu hz
end VL
