/-! THE CHECKER IS RIGHT: books. -/
/-- a book is as it should be: its number of rows and its columns lie in things that are there once; a column is an array of ints, reached by the book's field -/
def jWf (ST : Nat → Option aS) (so : List Nat) (JL : List aJ) : Prop := ∀ J ∈ JL, (∃ ob, ST J.1 = some (.inl ob) ∧ ∀ q ∈ J.2.2.1, ob.2[q.1]? = some (.inr (.inl q.2.1))) ∧ (∀ o o2 : Nat, so[o]? = some J.1 → so[o2]? = some J.1 → o = o2)
  ∧ ∀ q ∈ J.2.2.1, (∃ ob, ST q.2.1 = some (.inr ob) ∧ ob.1 = 0) ∧ (∀ o o2 : Nat, so[o]? = some q.2.1 → so[o2]? = some q.2.1 → o = o2) ∧ q.2.2.2 < q.2.2.1 ∧ ∀ q2 ∈ J.2.2.1, q2.2.1 = q.2.1 → q2.2.2.1 = q.2.2.1
theorem amfs_mem {hm : List aE} {t : Nat} {ix : Nat × Int} {r : Nat} {v : aV} (h : amfs hm t ix = some (r, v)) : (r, t, ix, v) ∈ hm := by
  induction hm with
  | nil => cases h
  | cons e tl ih =>
    have h : (bif Nat.beq e.2.1 t && (Nat.beq e.2.2.1.1 ix.1 && ieq e.2.2.1.2 ix.2) then some (e.1, e.2.2.2) else amfs tl t ix) = some (r, v) := h
    cases hb : Nat.beq e.2.1 t && (Nat.beq e.2.2.1.1 ix.1 && ieq e.2.2.1.2 ix.2) with
    | true =>
      rw [hb, cond_true] at h
      cases h
      rw [Bool.and_eq_true, Bool.and_eq_true, ieq_iff] at hb
      obtain ⟨r0, t0, ⟨k0, c0⟩, v0⟩ := e
      obtain ⟨k, c⟩ := ix
      have e1 := Nat.eq_of_beq_eq_true hb.1
      have e2 := Nat.eq_of_beq_eq_true hb.2.1
      have e3 := hb.2.2
      dsimp only at e1 e2 e3
      subst e1; subst e2; subst e3
      exact List.mem_cons_self
    | false =>
      rw [hb, cond_false] at h
      exact List.mem_cons_of_mem _ (ih h)
theorem amfx_mem {A : aA} {hm : List aE} {t m o : Nat} {x : Nat × Int} {v : aV} (h : amfx A t m o x hm = some v) : ∃ r ix, (r, t, ix, v) ∈ hm ∧ aixe A ix m o x = true := by
  induction hm with
  | nil => cases h
  | cons e tl ih =>
    have h : (bif Nat.beq e.2.1 t && aixe A e.2.2.1 m o x then some e.2.2.2 else amfx A t m o x tl) = some v := h
    cases hb : Nat.beq e.2.1 t && aixe A e.2.2.1 m o x with
    | true =>
      rw [hb, cond_true] at h
      cases h
      rw [Bool.and_eq_true] at hb
      obtain ⟨r0, t0, ix0, v0⟩ := e
      have e1 := Nat.eq_of_beq_eq_true hb.1
      dsimp only at e1
      subst e1
      exact ⟨r0, ix0, List.mem_cons_self, hb.2⟩
    | false =>
      rw [hb, cond_false] at h
      obtain ⟨r, ix, g1, g2⟩ := ih h
      exact ⟨r, ix, List.mem_cons_of_mem _ g1, g2⟩
theorem ajin_no {t : Nat} {cs : List (Nat × Nat × Nat × Nat)} (h : ajin t cs = false) : ∀ q ∈ cs, ¬ q.2.1 = t := by
  induction cs with
  | nil => exact fun q hq => absurd hq List.not_mem_nil
  | cons w r ih =>
    have h : (bif Nat.beq w.2.1 t then true else ajin t r) = false := h
    cases hb : Nat.beq w.2.1 t with
    | true => rw [hb] at h; cases h
    | false =>
      rw [hb, cond_false] at h
      intro q hq
      rcases List.mem_cons.mp hq with rfl | hq
      · exact nbeq hb
      · exact ih h q hq
theorem ajno_ok {t : Nat} {JL : List aJ} (h : ajno t JL = true) : ∀ J ∈ JL, ajin t J.2.2.1 = false := by
  induction JL with
  | nil => exact fun q hq => absurd hq List.not_mem_nil
  | cons w r ih =>
    have h : (bif ajin t w.2.2.1 then false else ajno t r) = true := h
    intro J hJ
    cases hb : ajin t w.2.2.1 with
    | true => rw [hb] at h; cases h
    | false =>
      rw [hb, cond_false] at h
      rcases List.mem_cons.mp hJ with rfl | hJ
      · exact hb
      · exact ih h J hJ
section AJ
variable {b : Nat} {so ad : List Nat} {tys : List (ClassId × FieldType)} {ST : Nat → Option aS} {JL : List aJ} {ρ : Nat → Int} {ρr : Nat → Nat} {md : aMd} {ws0 ws : va_W} {A : aA}
theorem aixe_ok (hs : cSat ρ A.1 A.2.1) {ix x : Nat × Int} {m o : Nat} (h : aixe A ix m o x = true) : ρ ix.1 + ix.2 = (m : Int) * (ρ x.1 + x.2) + (o : Int) := by
  match m, h with
  | 0, h => cases h
  | 1, h =>
    have h : (Nat.beq ix.1 x.1 && ieq ix.2 (x.2 + Int.ofNat o)) = true := h
    rw [Bool.and_eq_true, ieq_iff] at h
    have e : (Int.ofNat o : Int) = (o : Int) := rfl
    rw [Nat.eq_of_beq_eq_true h.1, h.2, e]
    have : ((1 : Nat) : Int) = 1 := rfl
    rw [this]
    omega
  | m + 2, h =>
    have h : (ieq x.2 0 && (ieq ix.2 (Int.ofNat o) && (match acs A.1 A.2.1 ix.1 with
      | some q => Nat.beq q.2.2.2.2 (m + 2) && Nat.beq q.2.2.2.1 x.1
      | none => false))) = true := h
    rw [Bool.and_eq_true, Bool.and_eq_true, ieq_iff, ieq_iff] at h
    obtain ⟨h1, h2, h3⟩ := h
    cases hq : acs A.1 A.2.1 ix.1 with
    | none => rw [hq] at h3; cases h3
    | some q =>
      rw [hq] at h3
      have h3 : (Nat.beq q.2.2.2.2 (m + 2) && Nat.beq q.2.2.2.1 x.1) = true := h3
      rw [Bool.and_eq_true] at h3
      have e1 := Nat.eq_of_beq_eq_true h3.1
      have e2 := Nat.eq_of_beq_eq_true h3.2
      obtain ⟨-, -, -, -, c5⟩ := hs.2.2.2 _ _ hq
      have c5 := (c5 (by omega)).2
      rw [e1, e2] at c5
      have e : (Int.ofNat o : Int) = (o : Int) := rfl
      rw [h1, h2, Int.add_zero, c5, e]
theorem j_same {ws2 : va_W} (h : jOk so JL ws) (hs : ∀ J ∈ JL, ∀ o i : Nat, (so[o]? = some J.1 ∨ ∃ q ∈ J.2.2.1, so[o]? = some q.2.1) → gcv ws2 o i = gcv ws o i) : jOk so JL ws2 := by
  intro J hJ o y ho hy i hi
  rw [hs J hJ o _ (Or.inl ho)] at hy
  obtain ⟨bx, h1, h2, h3⟩ := h J hJ o y ho hy i hi
  refine ⟨bx, h1, h2, fun c q w hq hw o2 z ho2 hz => ?_⟩
  rw [hs J hJ o2 _ (Or.inr ⟨q, List.mem_of_getElem? hq, ho2⟩)] at hz
  exact h3 c q w hq hw o2 z ho2 hz
/-- a write in a thing that is of no book -/
theorem j_oth (h : jOk so JL ws) {o t a : Nat} {e e2 : va_E} (hw : ws[o]? = some (a, e)) (ht : so[o]? = some t) (h1 : ∀ J ∈ JL, ¬ J.1 = t ∧ ∀ q ∈ J.2.2.1, ¬ q.2.1 = t) : jOk so JL (ws.set o (a, e2)) := by
  refine j_same h (fun J hJ o2 i ho2 => ?_)
  rw [gcv_set hw, if_neg]
  rintro rfl
  rcases ho2 with q | ⟨w, hw2, q⟩
  · rw [ht] at q; exact (h1 J hJ).1 (Option.some.inj q).symm
  · rw [ht] at q; exact (h1 J hJ).2 w hw2 (Option.some.inj q).symm
theorem ajcx_ok {t : Nat} {ix x : Nat × Int} {cs : List (Nat × Nat × Nat × Nat)} (h : ajcx A t ix x cs = true) : ∃ q ∈ cs, q.2.1 = t ∧ aixe A ix q.2.2.1 q.2.2.2 x = true := by
  induction cs with
  | nil => cases h
  | cons w r ih =>
    have h : (bif Nat.beq w.2.1 t && aixe A ix w.2.2.1 w.2.2.2 x then true else ajcx A t ix x r) = true := h
    cases hb : Nat.beq w.2.1 t && aixe A ix w.2.2.1 w.2.2.2 x with
    | true =>
      rw [Bool.and_eq_true] at hb
      exact ⟨w, List.mem_cons_self, Nat.eq_of_beq_eq_true hb.1, hb.2⟩
    | false =>
      rw [hb, cond_false] at h
      obtain ⟨q, g1, g2⟩ := ih h
      exact ⟨q, List.mem_cons_of_mem _ g1, g2⟩
theorem ajw_ok {t : Nat} {ix : Nat × Int} {JL : List aJ} (h : ajw A t ix JL = true) : ∀ J ∈ JL, ajin t J.2.2.1 = true → ∃ r x, amfs A.2.2.2.2 J.1 (0, Int.ofNat J.2.1) = some (r, .inl x) ∧ ajcx A t ix x J.2.2.1 = true := by
  induction JL with
  | nil => exact fun q hq => absurd hq List.not_mem_nil
  | cons w r ih =>
    have h : (bif ajin t w.2.2.1 then (match amfs A.2.2.2.2 w.1 (0, Int.ofNat w.2.1) with
      | some (_, .inl x) => ajcx A t ix x w.2.2.1 && ajw A t ix r
      | _ => false) else ajw A t ix r) = true := h
    intro J hJ hin
    cases hb : ajin t w.2.2.1 with
    | true =>
      rw [hb, cond_true] at h
      split at h
      · rename_i rr x hm
        rw [Bool.and_eq_true] at h
        rcases List.mem_cons.mp hJ with rfl | hJ
        · exact ⟨rr, x, hm, h.1⟩
        · exact ih h.2 J hJ hin
      · cases h
    | false =>
      rw [hb, cond_false] at h
      rcases List.mem_cons.mp hJ with rfl | hJ
      · rw [hb] at hin; cases hin
      · exact ih h J hJ hin
/-- the number of rows, known -/
theorem j_cnt (hR : aRel b so ad tys ST JL ρ ρr md ws0 A ws) (hW : jWf ST so JL) {J : aJ} (hJ : J ∈ JL) {r : Nat} {x : Nat × Int} (hm : amfs A.2.2.2.2 J.1 (0, Int.ofNat J.2.1) = some (r, .inl x)) : ∃ z : Int32, r < A.2.2.1 ∧ so[ρr r]? = some J.1 ∧ x.1 < A.1 ∧ gcv ws (ρr r) J.2.1 = some (.int z) ∧ z.toInt = ρ x.1 + x.2 := by
  obtain ⟨g1, g2, g3, i, y, g4, g5, g6⟩ := hR.2.2.2 _ (amfs_mem hm)
  dsimp only at g1 g2 g3 g4 g5 g6
  obtain ⟨h1, z, rfl, h2⟩ := g6
  have e : i = J.2.1 := by
    rw [hR.1.2.2.1] at g4
    have : (Int.ofNat J.2.1 : Int) = (J.2.1 : Int) := rfl
    omega
  subst e
  exact ⟨z, g1, g2, h1, g5, h2⟩
theorem j_arr (hR : aRel b so ad tys ST JL ρ ρr md ws0 A ws) (hW : jWf ST so JL) {o i0 t a : Nat} {e e2 : va_E} (hw : ws[o]? = some (a, e)) (ht : so[o]? = some t) (hT : ∃ ob, ST t = some (.inr ob)) (hc : ∀ i, ¬ i = i0 → gcl e2 i = gcl e i) {ix : Nat × Int} (hix : ρ ix.1 + ix.2 = (i0 : Int)) (h : ajw A t ix JL = true) : jOk so JL (ws.set o (a, e2)) := by
  intro J hJ ob y hob hy i hi
  obtain ⟨⟨so1, w1, w1f⟩, w2, w3⟩ := hW J hJ
  have hne : ¬ ob = o := by
    rintro rfl
    rw [ht] at hob
    cases hob
    obtain ⟨q, hq⟩ := hT
    rw [w1] at hq
    cases hq
  rw [gcv_set hw, if_neg hne] at hy
  obtain ⟨bx, h1, h2, h3⟩ := hR.2.2.1.2.1 J hJ ob y hob hy i hi
  refine ⟨bx, h1, h2, fun c q w hq hbw o2 z ho2 hz => ?_⟩
  rw [gcv_set hw] at hz
  by_cases ho : o2 = o
  · subst ho
    rw [if_pos rfl] at hz
    by_cases hi0 : q.2.2.1 * i + q.2.2.2 = i0
    · exfalso
      rw [ht] at ho2
      have ho2 : t = q.2.1 := Option.some.inj ho2
      have hqm := List.mem_of_getElem? hq
      have hin : ajin t J.2.2.1 = true := by
        cases hb : ajin t J.2.2.1 with
        | true => rfl
        | false => exact absurd ho2.symm (ajin_no hb q hqm)
      obtain ⟨rr, x, m1, m2⟩ := ajw_ok h J hJ hin
      obtain ⟨q2, k1, k2, k3⟩ := ajcx_ok m2
      obtain ⟨zc, -, n2, -, n4, n5⟩ := j_cnt hR hW hJ m1
      have e1 := w2 _ _ hob n2
      rw [← e1, hy] at n4
      have e2 : y = zc := by
        have := Option.some.inj n4
        injection this
      have hx := aixe_ok hR.1 k3
      rw [hix, ← n5, ← e2] at hx
      obtain ⟨-, -, p3, p4⟩ := w3 q hqm
      have hst := p4 q2 k1 (by rw [k2, ho2])
      rw [hst] at hx
      obtain ⟨-, -, p5, -⟩ := w3 q2 k1
      rw [← hi0] at hx
      have hx : ((q.2.2.1 * i + q.2.2.2 : Nat) : Int) = (q.2.2.1 : Int) * y.toInt + (q2.2.2.2 : Int) := hx
      have hyn : y.toInt = ((y.toInt.toNat : Nat) : Int) := (Int.toNat_of_nonneg (by omega)).symm
      rw [hyn] at hx hi
      have hi' : i + 1 ≤ y.toInt.toNat := by omega
      have hmul : q.2.2.1 * (i + 1) ≤ q.2.2.1 * y.toInt.toNat := Nat.mul_le_mul_left _ hi'
      have hx : q.2.2.1 * i + q.2.2.2 = q.2.2.1 * y.toInt.toNat + q2.2.2.2 := by exact_mod_cast hx
      rw [Nat.mul_add, Nat.mul_one] at hmul
      omega
    · rw [hc _ hi0, ← gcv_at hw] at hz
      exact h3 c q w hq hbw o2 z ho2 hz
  · rw [if_neg ho] at hz
    exact h3 c q w hq hbw o2 z ho2 hz
theorem ajrw_ok (hR : aRel b so ad tys ST JL ρ ρr md ws0 A ws) (x : Nat × Int) : ∀ {cs : List (Nat × Nat × Nat × Nat)} {bx : List (Int × Int)}, ajrw A x cs bx = true → cs.length = bx.length ∧ ∀ (c : Nat) (q : Nat × Nat × Nat × Nat) (w : Int × Int), cs[c]? = some q → bx[c]? = some w → (w.1 ≤ iMin ∧ iMax ≤ w.2) ∨ ∃ r ix v, (r, q.2.1, ix, (.inl v : aV)) ∈ A.2.2.2.2 ∧ aixe A ix q.2.2.1 q.2.2.2 x = true ∧ w.1 ≤ ρ v.1 + v.2 ∧ ρ v.1 + v.2 ≤ w.2
  | [], [], _ => ⟨rfl, fun c q w h => by simp at h⟩
  | [], _ :: _, h => (nomatch h)
  | _ :: _, [], h => (nomatch h)
  | q0 :: cs, w0 :: bx, h => by
    have h : ((bif ile w0.1 iMin && ile iMax w0.2 then true else (match amfx A q0.2.1 q0.2.2.1 q0.2.2.2 x A.2.2.2.2 with
      | some (.inl v) => abd A v (fun lo hi => ile w0.1 lo && ile hi w0.2)
      | _ => false)) && ajrw A x cs bx) = true := h
    rw [Bool.and_eq_true] at h
    obtain ⟨h1, h2⟩ := ajrw_ok hR x h.2
    refine ⟨by rw [List.length_cons, List.length_cons, h1], fun c q w hq hw => ?_⟩
    cases c with
    | zero =>
      rw [List.getElem?_cons_zero] at hq hw
      cases hq; cases hw
      have h := h.1
      cases hb : ile w0.1 iMin && ile iMax w0.2 with
      | true =>
        rw [Bool.and_eq_true, ile_iff, ile_iff] at hb
        exact Or.inl hb
      | false =>
        rw [hb, cond_false] at h
        split at h
        · rename_i v hv
          obtain ⟨r, ix, g1, g2⟩ := amfx_mem hv
          obtain ⟨lo, hi, h, b1, b2⟩ := abd_ok hR.1 h
          rw [Bool.and_eq_true, ile_iff, ile_iff] at h
          exact Or.inr ⟨r, ix, v, g1, g2, by omega, by omega⟩
        · cases h
    | succ c =>
      rw [List.getElem?_cons_succ] at hq hw
      exact h2 c q w hq hw
theorem ajbx_ok {x : Nat × Int} {cs : List (Nat × Nat × Nat × Nat)} : ∀ {bs : List (List (Int × Int))}, ajbx A x cs bs = true → ∃ bx ∈ bs, ajrw A x cs bx = true
  | [], h => (nomatch h)
  | w :: r, h => by
    have h : (bif ajrw A x cs w then true else ajbx A x cs r) = true := h
    cases hb : ajrw A x cs w with
    | true => exact ⟨w, List.mem_cons_self, hb⟩
    | false =>
      rw [hb, cond_false] at h
      obtain ⟨q, g1, g2⟩ := ajbx_ok h
      exact ⟨q, List.mem_cons_of_mem _ g1, g2⟩
theorem ajp_ok {t f : Nat} {v : aV} {JL : List aJ} (h : ajp A t f v JL = true) : ∀ J ∈ JL, J.1 = t → J.2.1 = f → ∃ y, v = .inl y ∧ (abd A y (fun _ hi => ile hi 0) = true ∨ ∃ r x, amfs A.2.2.2.2 t (0, Int.ofNat f) = some (r, .inl x) ∧ y.1 = x.1 ∧ y.2 = x.2 + 1 ∧ ajbx A x J.2.2.1 J.2.2.2 = true) := by
  rcases v with y | u
  · induction JL with
    | nil => exact fun q hq => absurd hq List.not_mem_nil
    | cons w r ih =>
      have h : (bif Nat.beq w.1 t && Nat.beq w.2.1 f then (bif abd A y (fun _ hi => ile hi 0) then ajp A t f (.inl y) r else (match amfs A.2.2.2.2 t (0, Int.ofNat f) with
          | some (_, .inl x) => bif (Nat.beq y.1 x.1 && ieq y.2 (x.2 + 1)) && ajbx A x w.2.2.1 w.2.2.2 then ajp A t f (.inl y) r else false
          | _ => false)) else ajp A t f (.inl y) r) = true := h
      intro J hJ e1 e2
      cases hb : Nat.beq w.1 t && Nat.beq w.2.1 f with
      | true =>
        rw [hb, cond_true] at h
        cases hz : abd A y (fun _ hi => ile hi 0) with
        | true =>
          rw [hz, cond_true] at h
          rcases List.mem_cons.mp hJ with rfl | hJ
          · exact ⟨y, rfl, Or.inl hz⟩
          · exact ih h J hJ e1 e2
        | false =>
          rw [hz, cond_false] at h
          split at h
          · rename_i rr x hm
            obtain ⟨hc, h⟩ := e_cond h e_ff
            rw [Bool.and_eq_true, Bool.and_eq_true, ieq_iff] at hc
            rcases List.mem_cons.mp hJ with rfl | hJ
            · exact ⟨y, rfl, Or.inr ⟨rr, x, hm, Nat.eq_of_beq_eq_true hc.1.1, hc.1.2, hc.2⟩⟩
            · exact ih h J hJ e1 e2
          · cases h
      | false =>
        rw [hb, cond_false] at h
        rcases List.mem_cons.mp hJ with rfl | hJ
        · rw [e1, e2, Nat.beq_refl, Nat.beq_refl] at hb
          cases hb
        · exact ih h J hJ e1 e2
  · induction JL with
    | nil => exact fun q hq => absurd hq List.not_mem_nil
    | cons w r ih =>
      have h : (bif Nat.beq w.1 t && Nat.beq w.2.1 f then false else ajp A t f (.inr u) r) = true := h
      intro J hJ e1 e2
      cases hb : Nat.beq w.1 t && Nat.beq w.2.1 f with
      | true => rw [hb] at h; cases h
      | false =>
        rw [hb, cond_false] at h
        rcases List.mem_cons.mp hJ with rfl | hJ
        · rw [e1, e2, Nat.beq_refl, Nat.beq_refl] at hb
          cases hb
        · exact ih h J hJ e1 e2
theorem j_fld (hR : aRel b so ad tys ST JL ρ ρr md ws0 A ws) (hW : jWf ST so JL) {o f t a ci : Nat} {fs : List Value} (hw : ws[o]? = some (a, .inr (ci, fs))) (ht : so[o]? = some t) (hT : ∃ ob, ST t = some (.inl ob)) (hl : f < fs.length) {v : aV} {xv : Value} (hv : vRel b ad ρ ρr A.1 A.2.2.1 v xv) (h : ajp A t f v JL = true) : jOk so JL (ws.set o (a, .inr (ci, fs.set f xv))) := by
  intro J hJ ob y hob hy i hi
  obtain ⟨⟨so1, w1, w1f⟩, w2, w3⟩ := hW J hJ
  have hcol : ∀ q ∈ J.2.2.1, ∀ o2 j : Nat, so[o2]? = some q.2.1 → gcv (ws.set o (a, .inr (ci, fs.set f xv))) o2 j = gcv ws o2 j := fun q hq o2 j ho2 => by
    rw [gcv_set hw, if_neg]
    rintro rfl
    rw [ht] at ho2
    obtain ⟨⟨u, hu, -⟩, -⟩ := w3 q hq
    obtain ⟨u2, hu2⟩ := hT
    rw [Option.some.inj ho2] at hu2
    rw [hu] at hu2
    cases hu2
  have hold : ∀ z : Int32, gcv ws ob J.2.1 = some (.int z) → (i : Int) < z.toInt → ∃ bx ∈ J.2.2.2, jRow so (ws.set o (a, .inr (ci, fs.set f xv))) i J.2.2.1 bx := fun z hz hlt => by
    obtain ⟨bx, h1, h2, h3⟩ := hR.2.2.1.2.1 J hJ ob z hob hz i hlt
    refine ⟨bx, h1, h2, fun c q w hq hbw o2 z2 ho2 hz2 => ?_⟩
    rw [hcol q (List.mem_of_getElem? hq) o2 _ ho2] at hz2
    exact h3 c q w hq hbw o2 z2 ho2 hz2
  by_cases ho : ob = o
  · subst ho
    rw [ht] at hob
    have hob : t = J.1 := Option.some.inj hob
    rw [gcv_set hw, if_pos rfl] at hy
    have hy : (fs.set f xv)[J.2.1]? = some (.int y) := hy
    by_cases hf : J.2.1 = f
    · rw [hf, List.getElem?_set_self hl] at hy
      have hy : xv = .int y := Option.some.inj hy
      subst hy
      obtain ⟨yy, rfl, hh⟩ := ajp_ok h J hJ hob.symm hf
      obtain ⟨z0, hz0, hz1⟩ := vRel_int hv
      have hz0 : y = z0 := by injection hz0
      subst hz0
      rcases hh with hh | ⟨r, x, m1, m2, m3, m4⟩
      · obtain ⟨lo, hi2, hh, b1, b2⟩ := abd_ok hR.1 hh
        rw [ile_iff] at hh
        omega
      · rw [hob, ← hf] at m1
        obtain ⟨zc, n1, n2, n3, n4, n5⟩ := j_cnt hR hW hJ m1
        have eo := w2 _ _ (by rw [← hob]; exact ht) n2
        rw [← eo] at n4
        rw [m2, m3] at hz1
        have hyc : y.toInt = zc.toInt + 1 := by omega
        by_cases hic : (i : Int) < zc.toInt
        · exact hold zc n4 hic
        · have hic : (i : Int) = zc.toInt := by omega
          obtain ⟨bx, k1, k2⟩ := ajbx_ok m4
          obtain ⟨k3, k4⟩ := ajrw_ok hR x k2
          refine ⟨bx, k1, k3, fun c q w hq hbw o2 z2 ho2 hz2 => ?_⟩
          have hqm := List.mem_of_getElem? hq
          rw [hcol q hqm o2 _ ho2] at hz2
          rcases k4 c q w hq hbw with ⟨p1, p2⟩ | ⟨r2, ix, v2, p1, p2, p3, p4⟩
          · exact ⟨Int.le_trans p1 (i_lo _), Int.le_trans (i_hi _) p2⟩
          · obtain ⟨g1, g2, g3, j, xx, g4, g5, g6⟩ := hR.2.2.2 _ p1
            dsimp only at g1 g2 g3 g4 g5 g6
            obtain ⟨-, u2, -⟩ := w3 q hqm
            have eo2 := u2 _ _ ho2 g2
            rw [← eo2] at g5
            have hx := aixe_ok hR.1 p2
            rw [← n5, ← hic] at hx
            have ej : j = q.2.2.1 * i + q.2.2.2 := by
              have : (j : Int) = ((q.2.2.1 * i + q.2.2.2 : Nat) : Int) := by rw [g4, hx]; push_cast; rfl
              exact_mod_cast this
            rw [← ej, g5] at hz2
            have hz2 : xx = .int z2 := Option.some.inj hz2
            subst hz2
            obtain ⟨z3, e3, e4⟩ := vRel_int g6
            have e3 : z2 = z3 := by injection e3
            subst e3
            exact ⟨by rw [e4]; exact p3, by rw [e4]; exact p4⟩
    · rw [List.getElem?_set_ne (fun q => hf q.symm)] at hy
      exact hold y (by rw [gcv_at hw]; exact hy) hi
  · rw [gcv_set hw, if_neg ho] at hy
    exact hold y hy hi
end AJ
