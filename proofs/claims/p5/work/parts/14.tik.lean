/-! THE CHECKER IS RIGHT: certificates, the whole. -/
section AI5
variable {b base LS : Nat} {xs : Nat → Int32} {D : va_G} {cl : List vw_C} {tys : List (ClassId × FieldType)} {Tb : List Cond} {NF : State → Prop} {l : Launch} {CN : Nat → String} {so ad : List Nat} {ST : Nat → Option aS} {JL : List aJ} {md : aMd} {ws0 : va_W}
/-- locals are told once -/
theorem gG_uniq {mi : eM} {pc : Nat} {lv : List (Nat × Value)} {st : List Value} {ws : va_W} {ce sl : Nat} {K : gK} (h : (∀ (j : Nat) (x y : Value), (j, x) ∈ lv → (j, y) ∈ lv → x = y) → gG b base LS xs D cl tys Tb NF l CN mi pc lv st ws ce sl K) : gG b base LS xs D cl tys Tb NF l CN mi pc lv st ws ce sl K := by
  intro p e R s m args below meth c Q cc nL X hR H locs lsA hw hl
  refine h (fun j x y hx hy => ?_) p e R s m args below meth c Q cc nL X hR H locs lsA hw hl
  have h1 := hl.2.2 _ hx
  have h2 := hl.2.2 _ hy
  rw [h1] at h2
  have h2 := Option.some.inj h2
  injection h2
theorem acas_ok {A : aA} {ρ : Nat → Int} {ρr : Nat → Nat} {ws : va_W} (hR : aRel b so ad tys ST JL ρ ρr md ws0 A ws) {x : Nat × Int} {go : aA → Bool} : ∀ (n : Nat) (c : Int), acas x A go n c = true → c ≤ ρ x.1 + x.2 → ρ x.1 + x.2 < c + (n : Int) → aCut b so ad tys ST JL md ws0 ws A ρ ρr go
  | 0, c, h, h1, h2 => by omega
  | n + 1, c, h, h1, h2 => by
    have h : (abt x c c A go && efI (c + 1) (acas x A go n)) = true := h
    rw [Bool.and_eq_true, efI_eq] at h
    by_cases he : ρ x.1 + x.2 = c
    · exact abt_ok hR h.1 (by omega) (by omega)
    · exact acas_ok hR n _ h.2 (by omega) (by omega)
theorem afd_ok {ρ : Nat → Int} {k m : Nat} : ∀ {cs : List aC} {n s : Nat}, cs.length = n → afd k m cs n = some s → s < n ∧ ∃ q, cs[n - 1 - s]? = some q ∧ q.2.2.2.2 = m ∧ q.2.2.2.1 = k
  | [], n, s, hl, h => (nomatch h)
  | q :: cs, n, s, hl, h => by
    have h : (bif Nat.beq q.2.2.2.2 m && Nat.beq q.2.2.2.1 k then some (n - 1) else afd k m cs (n - 1)) = some s := h
    rw [List.length_cons] at hl
    cases hb : Nat.beq q.2.2.2.2 m && Nat.beq q.2.2.2.1 k with
    | true =>
      rw [hb, cond_true] at h
      cases h
      rw [Bool.and_eq_true] at hb
      refine ⟨by omega, q, ?_, Nat.eq_of_beq_eq_true hb.1, Nat.eq_of_beq_eq_true hb.2⟩
      rw [show n - 1 - (n - 1) = 0 by omega]
      rfl
    | false =>
      rw [hb, cond_false] at h
      obtain ⟨g1, q2, g2, g3⟩ := afd_ok (ρ := ρ) (n := n - 1) (by omega) h
      refine ⟨by omega, q2, ?_, g3⟩
      rw [show n - 1 - s = (n - 1 - 1 - s) + 1 by omega, List.getElem?_cons_succ]
      exact g2
theorem ajix_ok {A : aA} {ρ : Nat → Int} (hs : cSat ρ A.1 A.2.1) {m o : Nat} {x : Nat × Int} (hx : x.1 < A.1) {k : Nat × Int → Bool} (h : ajix A m o x k = true) : ∃ ix, k ix = true ∧ ix.1 < A.1 ∧ ρ ix.1 + ix.2 = (m : Int) * (ρ x.1 + x.2) + (o : Int) := by
  match m, h with
  | 0, h => cases h
  | 1, h =>
    have h : efI (x.2 + Int.ofNat o) (fun c => k (x.1, c)) = true := h
    rw [efI_eq] at h
    refine ⟨_, h, hx, ?_⟩
    have e : (Int.ofNat o : Int) = (o : Int) := rfl
    have e1 : ((1 : Nat) : Int) = 1 := rfl
    show ρ x.1 + (x.2 + Int.ofNat o) = _
    rw [e, e1]
    omega
  | m + 2, h =>
    have h : (bif ieq x.2 0 then (match afd x.1 (m + 2) A.2.1 A.1 with
      | some s => ef s (fun s => k (s, Int.ofNat o))
      | none => false) else false) = true := h
    obtain ⟨h0, h⟩ := e_cond h e_ff
    rw [ieq_iff] at h0
    split at h
    · rename_i s hsd
      rw [ef_eq] at h
      obtain ⟨g1, q, g2, g3, g4⟩ := afd_ok (ρ := ρ) hs.2.1 hsd
      have hq : acs A.1 A.2.1 s = some q := by
        unfold acs
        rw [show Nat.blt s A.1 = true from Nat.ble_eq_true_of_le g1, cond_true, eg_eq]
        exact g2
      obtain ⟨-, -, -, -, c5⟩ := hs.2.2.2 _ _ hq
      have c5 := (c5 (by omega)).2
      rw [g3, g4] at c5
      refine ⟨_, h, g1, ?_⟩
      show ρ s + Int.ofNat o = _
      have e : (Int.ofNat o : Int) = (o : Int) := rfl
      rw [c5, h0, Int.add_zero, e]
    · cases h
theorem ajc1_ok {A : aA} {ρ : Nat → Int} {ρr : Nat → Nat} {ws : va_W} (hR : aRel b so ad tys ST JL ρ ρr md ws0 A ws) {ra t m o i : Nat} {x : Nat × Int} {w : Int × Int} {k : aA → Bool} (hra : ra < A.2.2.1) (ht : so[ρr ra]? = some t) (hk0 : ∃ ob, ST t = some (.inr ob) ∧ ob.1 = 0) (hx : x.1 < A.1) (hi : ρ x.1 + x.2 = (i : Int)) (hw : ∀ z : Int32, gcv ws (ρr ra) (m * i + o) = some (.int z) → w.1 ≤ z.toInt ∧ z.toInt ≤ w.2) (h : ajc1 ST ra t m o x w A k = true) : ∃ A2 ρ2 ρr2, k A2 = true ∧ aUp A ρ ρr A2 ρ2 ρr2 ∧ aRel b so ad tys ST JL ρ2 ρr2 md ws0 A2 ws := by
  unfold ajc1 at h
  split at h
  · rename_i ob hob
    obtain ⟨ob2, hob2, hk0⟩ := hk0
    rw [hob] at hob2
    cases hob2
    obtain ⟨ix, h, g1, g2⟩ := ajix_ok hR.1 hx h
    obtain ⟨lo, hi2, h, b1, b2⟩ := abd_ok hR.1 h
    obtain ⟨hb, h⟩ := e_cond h e_ff
    rw [Bool.and_eq_true, Bool.and_eq_true, ile_iff, ile_iff] at hb
    obtain ⟨⟨c1, c2⟩, c3⟩ := hb
    have c2 : hi2 + 1 ≤ (ob.2.1 : Int) := c2
    rw [hi] at g2
    have g2 : ρ ix.1 + ix.2 = ((m * i + o : Nat) : Int) := by rw [g2]; push_cast; rfl
    obtain ⟨a, e, w1, w2, w3⟩ := w_at hR.2.2.1.1 ht
    unfold eOk at w3
    rw [hob] at w3
    rcases w3 with ⟨q3, cA, f, t6, rfl, q1, q2⟩ | ⟨q1, -⟩ | ⟨q1, -⟩
    · have hlt : m * i + o < ob.2.1 := by omega
      have hgv : gcv ws (ρr ra) (m * i + o) = some (.int (f (m * i + o))) := by rw [gcv_at w1, gcl_int hlt]
      obtain ⟨u1, u2⟩ := hw _ hgv
      obtain ⟨v, A2, ρ2, ρr2, y1, y2, y3, y4⟩ := anew_0 hR h u1 u2 (i_lo _)
      obtain ⟨A3, z1, z2, z3, z4⟩ : ∃ A3 : aA, k A3 = true ∧ A3.1 = A2.1 ∧ A3.2.2.1 = A2.2.2.1 ∧ aRel b so ad tys ST JL ρ2 ρr2 md ws0 A3 ws := aput_ok y3 y1 ⟨Nat.lt_of_lt_of_le hra y2.2.1, by show so[ρr2 ra]? = _; rw [y2.2.2.2 _ hra]; exact ht, Nat.lt_of_lt_of_le g1 y2.1, m * i + o, _, by show _ = ρ2 ix.1 + ix.2; rw [y2.2.2.1 _ g1]; exact g2.symm, by show gcv ws (ρr2 ra) _ = _; rw [y2.2.2.2 _ hra]; exact hgv, y4⟩
      have u := y2.trans (aUp.same (ρ := ρ2) (ρr := ρr2) z2 z3)
      exact ⟨A3, ρ2, ρr2, z1, u, z4⟩
    · omega
    · omega
  · cases h
theorem ajcr_ok (hI : ∀ o o2 a : Nat, ad[o]? = some a → ad[o2]? = some a → o = o2) {ws : va_W} {rb tb i : Nat} {x : Nat × Int} : ∀ {cs : List (Nat × Nat × Nat × Nat)} {bx : List (Int × Int)} {A : aA} {ρ : Nat → Int} {ρr : Nat → Nat} {k : aA → Bool}, aRel b so ad tys ST JL ρ ρr md ws0 A ws → rb < A.2.2.1 → so[ρr rb]? = some tb → (∃ ob, ST tb = some (.inl ob) ∧ ∀ q ∈ cs, ob.2[q.1]? = some (.inr (.inl q.2.1))) → (∀ q ∈ cs, ∃ ob, ST q.2.1 = some (.inr ob) ∧ ob.1 = 0) → x.1 < A.1 → ρ x.1 + x.2 = (i : Int) → jRow so ws i cs bx → ajcr ST rb tb x cs bx A k = true →
    ∃ A2 ρ2 ρr2, k A2 = true ∧ aUp A ρ ρr A2 ρ2 ρr2 ∧ aRel b so ad tys ST JL ρ2 ρr2 md ws0 A2 ws
  | [], [], A, ρ, ρr, k, hR, _, _, _, _, _, _, _, h => ⟨A, ρ, ρr, h, aUp.refl, hR⟩
  | [], _ :: _, A, ρ, ρr, k, _, _, _, _, _, _, _, _, h => (nomatch h)
  | _ :: _, [], A, ρ, ρr, k, _, _, _, _, _, _, _, _, h => (nomatch h)
  | q :: cs, w :: bx, A, ρ, ρr, k, hR, hrb, htb, hob, hkd, hx, hi, hj, h => by
    have h : (match amf A.2.2.2.2 rb (0, Int.ofNat q.1) with
      | some (.inr (.inl ra)) => ajc1 ST ra q.2.1 q.2.2.1 q.2.2.2 x w A (fun A => ajcr ST rb tb x cs bx A k)
      | some _ => false
      | none => anewr A q.2.1 (fun v A => aput A (rb, tb, (0, Int.ofNat q.1), v) (fun A => match v with
        | .inr (.inl ra) => ajc1 ST ra q.2.1 q.2.2.1 q.2.2.2 x w A (fun A => ajcr ST rb tb x cs bx A k)
        | _ => false))) = true := h
    obtain ⟨ob, hob1, hob2⟩ := hob
    obtain ⟨a, e, w1, w2, w3⟩ := w_at hR.2.2.1.1 htb
    unfold eOk at w3
    rw [hob1] at w3
    obtain ⟨fs, rfl, k1, k2⟩ := w3
    have hf := hob2 q List.mem_cons_self
    have hlt : q.1 < fs.length := by rw [k1]; exact (List.getElem?_eq_some_iff.mp hf).1
    have hxf := List.getElem?_eq_getElem hlt
    obtain ⟨oc, ac, p1, p2, p3⟩ := k2 _ _ _ hf hxf
    have hgv : gcv ws (ρr rb) q.1 = some (.ref ac) := by rw [gcv_at w1, ← p3]; exact hxf
    have hj2 : jRow so ws i cs bx := by
      obtain ⟨j1, j2⟩ := hj
      rw [List.length_cons, List.length_cons] at j1
      exact ⟨by omega, fun c q2 w2 h1 h2 => j2 (c + 1) q2 w2 (by rw [List.getElem?_cons_succ]; exact h1) (by rw [List.getElem?_cons_succ]; exact h2)⟩
    have hw0 : ∀ (o2 : Nat) (z : Int32), so[o2]? = some q.2.1 → gcv ws o2 (q.2.2.1 * i + q.2.2.2) = some (.int z) → w.1 ≤ z.toInt ∧ z.toInt ≤ w.2 := fun o2 z ho2 hz => hj.2 0 q w List.getElem?_cons_zero List.getElem?_cons_zero o2 z ho2 hz
    have fin : ∀ {A1 : aA} {ρ1 : Nat → Int} {ρr1 : Nat → Nat} {ra : Nat}, aUp A ρ ρr A1 ρ1 ρr1 → aRel b so ad tys ST JL ρ1 ρr1 md ws0 A1 ws → ra < A1.2.2.1 → so[ρr1 ra]? = some q.2.1 → ajc1 ST ra q.2.1 q.2.2.1 q.2.2.2 x w A1 (fun A => ajcr ST rb tb x cs bx A k) = true → ∃ A2 ρ2 ρr2, k A2 = true ∧ aUp A ρ ρr A2 ρ2 ρr2 ∧ aRel b so ad tys ST JL ρ2 ρr2 md ws0 A2 ws := fun {A1 ρ1 ρr1 ra} u hR1 h1 h2 h3 => by
      have hx1 : x.1 < A1.1 := Nat.lt_of_lt_of_le hx u.1
      have hi1 : ρ1 x.1 + x.2 = (i : Int) := by rw [u.2.2.1 _ hx]; exact hi
      obtain ⟨A2, ρ2, ρr2, y1, y2, y3⟩ := ajc1_ok hR1 h1 h2 (hkd q List.mem_cons_self) hx1 hi1 (fun z hz => hw0 _ z h2 hz) h3
      have u2 := u.trans y2
      obtain ⟨A3, ρ3, ρr3, z1, z2, z3⟩ := ajcr_ok hI (i := i) y3 (Nat.lt_of_lt_of_le hrb u2.2.1) (by rw [u2.2.2.2 _ hrb]; exact htb) ⟨ob, hob1, fun w hw => hob2 w (List.mem_cons_of_mem _ hw)⟩ (fun w hw => hkd w (List.mem_cons_of_mem _ hw)) (Nat.lt_of_lt_of_le hx u2.1) (by rw [u2.2.2.1 _ hx]; exact hi) hj2 y1
      exact ⟨A3, ρ3, ρr3, z1, u2.trans z2, z3⟩
    split at h
    · rename_i ra hm
      obtain ⟨x2, y1, y2⟩ := m_fld hR hm
      rw [hgv] at y1
      have y1 := Option.some.inj y1
      subst y1
      obtain ⟨m1, a2, m2, m3⟩ := y2
      have m3 : ac = a2 := by injection m3
      subst m3
      refine fin aUp.refl hR m1 ?_ h
      rw [← hI _ _ _ p2 m2]
      exact p1
    · cases h
    · obtain ⟨A2, ρr2, y1, y2, y3, y4, y5, y6⟩ := anewr_ok hR h p1 p2
      have hrb2 : ρr2 rb = ρr rb := y2.2.2.2 rb hrb
      obtain ⟨A3, z1, z2, z3, z4⟩ := aput_ok y3 y1 (m_new y3 (Nat.lt_of_lt_of_le hrb y2.2.1) (by rw [hrb2]; exact htb) (by rw [hrb2]; exact hgv) y4)
      have u := y2.trans (aUp.same (ρ := ρ) (ρr := ρr2) z2 z3)
      exact fin u z4 (by rw [z3]; exact y6) (by rw [y5]; exact p1) z1
theorem ajrd_ok {A : aA} {ρ : Nat → Int} {ρr : Nat → Nat} {ws : va_W} (hR : aRel b so ad tys ST JL ρ ρr md ws0 A ws) (hI : ∀ o o2 a : Nat, ad[o]? = some a → ad[o2]? = some a → o = o2) (hW : jWf ST so JL) {J : aJ} (hJ : J ∈ JL) {x : Nat × Int} (hx : x.1 < A.1) {go : aA → Bool} (h : ajrd ST J x A go = true) : ∃ A2 ρ2 ρr2, go A2 = true ∧ aUp A ρ ρr A2 ρ2 ρr2 ∧ aRel b so ad tys ST JL ρ2 ρr2 md ws0 A2 ws := by
  unfold ajrd at h
  split at h
  · rename_i rb y hm
    obtain ⟨hb, h⟩ := e_cond h e_ff
    rw [Bool.and_eq_true] at hb
    have hage := age_ok hR.1 _ _ _ hb.1
    obtain ⟨lo, hi, h0, b1, b2⟩ := abd_ok hR.1 hb.2
    rw [ile_iff] at h0
    obtain ⟨zc, n1, n2, n3, n4, n5⟩ := j_cnt hR hW hJ hm
    obtain ⟨i, hi⟩ : ∃ i : Nat, ρ x.1 + x.2 = (i : Int) := ⟨(ρ x.1 + x.2).toNat, (Int.toNat_of_nonneg (by omega)).symm⟩
    obtain ⟨bx, g1, g2⟩ := hR.2.2.1.2.1 J hJ _ zc n2 n4 i (by omega)
    obtain ⟨w1, w2, w3⟩ := hW J hJ
    have hall : ∀ {bs : List (List (Int × Int))}, (List.rec true (fun b _ ih => ajcr ST rb J.1 x J.2.2.1 b A go && ih) bs : Bool) = true → bx ∈ bs → ajcr ST rb J.1 x J.2.2.1 bx A go = true := fun {bs} => by
      induction bs with
      | nil => exact fun _ q => absurd q List.not_mem_nil
      | cons w r ih =>
        intro hh hmem
        have hh : (ajcr ST rb J.1 x J.2.2.1 w A go && (List.rec true (fun b _ ih => ajcr ST rb J.1 x J.2.2.1 b A go && ih) r : Bool)) = true := hh
        rw [Bool.and_eq_true] at hh
        rcases List.mem_cons.mp hmem with rfl | hmem
        · exact hh.1
        · exact ih hh.2 hmem
    exact ajcr_ok hI (i := i) hR n1 n2 w1 (fun q hq => (w3 q hq).1) hx hi g2 (hall h g1)
  · cases h
end AI5
