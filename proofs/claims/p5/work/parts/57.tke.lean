/-! THE EXACT WALK AND THE CONTRACTS. -/
/-- bounds -/
def vBdL (so : List Nat) (ST : Nat → Option aS) (uq : Nat → Bool) (σ : vS) : Prop := ∀ t : Nat, uq t = true → (∃ o : Nat, so[o]? = some t) → (∀ ob, ST t = some (.inl ob) → ∀ (f : Nat) (w : Int × Int), ob.2[f]? = some (.inl w) → w.1 ≤ σ t (f : Int) ∧ σ t (f : Int) ≤ w.2) ∧ ∀ ob, ST t = some (.inr ob) → ob.1 < 3 → ∀ j : Nat, j < ob.2.1 → ∃ w, rgAt ob.2.2.1 j = some w ∧ w.1 ≤ σ t (j : Int) ∧ σ t (j : Int) ≤ w.2
def vFitL (f : aF) (v : vVL) : Prop := match f, v with
  | .inl q, .inl x => q.1 ≤ x ∧ x ≤ q.2
  | .inr (.inl t), .inr (.inl t2) => t2 = t
  | .inr (.inr _), .inr (.inr _) => True
  | _, _ => False
def vFitsL : List aF → List vVL → Prop
  | [], [] => True
  | f :: fs, v :: vs => vFitL f v ∧ vFitsL fs vs
  | _, _ => False
def vFrL (f : Option aF) (ret : Option vVL) : Prop := match f, ret with
  | none, none => True
  | some f, some v => vFitL f v
  | _, _ => False
/-- outside those cells nothing is changed -/
def vFmL (uq : Nat → Bool) (mods : aMd) (σ σ2 : vS) : Prop := ∀ (t : Nat) (i : Int), uq t = true → (∀ q ∈ mods, ¬ (q.1 = t ∧ (q.2.1 : Int) ≤ i ∧ i < (q.2.2 : Int))) → σ2 t i = σ t i
def vFcL (uq : Nat → Bool) (olds : List (Nat × Nat)) (vs : List vVL) (σ σ2 : vS) (q : Nat × Int × Int × Option Int) : Prop := ∀ (af : Nat × Nat) (t : Nat), olds.reverse[q.1]? = some af → vs[af.1]? = some (.inr (.inl t)) → uq t = true → q.2.1 ≤ σ2 t (af.2 : Int) ∧ σ2 t (af.2 : Int) ≤ q.2.2.1 ∧ ∀ d, q.2.2.2 = some d → σ t (af.2 : Int) + d ≤ σ2 t (af.2 : Int)
/-- a call by its contract -/
def vSpCL (so : List Nat) (ST : Nat → Option aS) (md : aMd) (uq : Nat → Bool) (c : aCon) : vSpL := fun vs σ K => vFitsL c.1 vs ∧ vX σ ∧ amds md c.2.2.2 = true ∧ ∀ al ∈ c.2.2.1, ∀ (ret : Option vVL) (σ2 : vS), vFrL al.1 ret → vX σ2 → vBdL so ST uq σ2 → vFmL uq c.2.2.2 σ σ2 → (∀ q ∈ al.2, vFcL uq c.2.1 vs σ σ2 q) → K ret σ2
section VM
variable {b base LS : Nat} {xs : Nat → Int32} {D : va_G} {cl : List vw_C} {tys : List (ClassId × FieldType)} {Tb : List Cond} {NF : State → Prop} {l : Launch} {CN : Nat → String} {so ad : List Nat} {ST : Nat → Option aS} {JL : List aJ} {md : aMd} {ws0 : va_W} {uq : Nat → Bool}
theorem vBd_ofL {ws : va_W} {σ : vS} (hW : vWL tys so ad ST JL md ws0 uq ws σ) : vBdL so ST uq σ := by
  intro t hu ⟨o, ho⟩
  obtain ⟨a, e, w1, w2, w3⟩ := w0_at hW.1 ho
  unfold eOk at w3
  constructor
  · intro ob hob f w hf
    rw [hob] at w3
    obtain ⟨fs, rfl, k1, k2⟩ := w3
    have hlt : f < fs.length := by rw [k1]; exact (List.getElem?_eq_some_iff.mp hf).1
    have hx := List.getElem?_eq_getElem hlt
    obtain ⟨z, hz, h1, h2⟩ := k2 _ _ _ hf hx
    have hgv : gcv ws o f = some (.int z) := by rw [gcv_at w1, ← hz]; exact hx
    rw [← hW.2.2.2.1 o t f z ho hu hgv]
    exact ⟨h1, h2⟩
  · intro ob hob h3 j hj
    rw [hob] at w3
    rcases w3 with ⟨-, cA, f, t2, rfl, q1, q2⟩ | ⟨q1, -⟩ | ⟨q1, -⟩
    · obtain ⟨w, u1, u2, u3⟩ := q2 j hj
      have hgv : gcv ws o j = some (.int (f j)) := by rw [gcv_at w1, gcl_int hj]
      refine ⟨w, u1, ?_⟩
      rw [← hW.2.2.2.1 o t j _ ho hu hgv]
      exact ⟨u2, u3⟩
    · omega
    · omega
theorem VG_bdL {mi : eM} {pc : Nat} {ls : List (Nat × vVL)} {st : List vVL} {σ : vS} {K : vKL} (h : vBdL so ST uq σ → VGL b base LS xs D cl tys Tb NF l CN so ad ST JL md ws0 uq mi pc ls st σ K) : VGL b base LS xs D cl tys Tb NF l CN so ad ST JL md ws0 uq mi pc ls st σ K := fun Kg lv stA ws hW => h (vBd_ofL hW) Kg lv stA ws hW
theorem VG_monoL {mi : eM} {pc : Nat} {ls : List (Nat × vVL)} {st : List vVL} {σ : vS} {K K2 : vKL} (hk : ∀ ret σ, vBdL so ST uq σ → K ret σ → K2 ret σ) (h : VGL b base LS xs D cl tys Tb NF l CN so ad ST JL md ws0 uq mi pc ls st σ K) : VGL b base LS xs D cl tys Tb NF l CN so ad ST JL md ws0 uq mi pc ls st σ K2 := fun Kg lv stA ws hW hl hs hK => h Kg lv stA ws hW hl hs (fun ret σ ws rv hkk hW2 => hK ret σ ws rv (hk ret σ (vBd_ofL hW2) hkk) hW2)
theorem vP_52L {ws : va_W} {σ : vS} (H : vXh ST) (hu : uq 52 = true ∧ uq 74 = true) (hW : vWL tys so ad ST JL md ws0 uq ws σ) {o : Nat} {a : Nat} {e : va_E} (he : ws[o]? = some (a, e)) (ho : so[o]? = some 52) : ∃ (cA : ClassId) (f : Nat → Int32), e = .inl (cA, 402, .inl f) ∧ (xVP f 221 ↔ xVPz (σ 52) 221) := by
  obtain ⟨⟨rg, u, w, h1, h2, h3⟩, -⟩ := H
  have w3 := hW.1.2.2 o 52 _ he ho
  unfold eOk at w3
  rw [h1] at w3
  rcases w3 with ⟨-, cA, f, t2, rfl, q1, q2⟩ | ⟨q1, -⟩ | ⟨q1, -⟩
  · have ag : ∀ j : Nat, j < 402 → (f j).toInt = σ 52 (j : Int) := fun j hj => hW.2.2.2.1 o 52 j _ ho hu.1 (by rw [gcv_at he, gcl_int hj])
    obtain ⟨w2, u1, u2, u3⟩ := q2 221 (show 221 < 402 by decide)
    rw [h2] at u1
    cases u1
    exact ⟨cA, f, rfl, xVP_z (n := 402) (fun j _ hj => ag j hj) (by omega) (by omega)⟩
  · cases q1
  · cases q1
theorem vP_74L {ws : va_W} {σ : vS} (H : vXh ST) (hu : uq 52 = true ∧ uq 74 = true) (hW : vWL tys so ad ST JL md ws0 uq ws σ) {o : Nat} {a : Nat} {e : va_E} (he : ws[o]? = some (a, e)) (ho : so[o]? = some 74) : ∃ (cA : ClassId) (f : Nat → Int32), e = .inl (cA, 804, .inl f) ∧ (xVP f 221 ↔ xVPz (σ 74) 221) ∧ (xVP f 623 ↔ xVPz (σ 74) 623) := by
  obtain ⟨-, ⟨rg, u, w, w5, h1, h2, h3, h4, h5⟩⟩ := H
  have w3 := hW.1.2.2 o 74 _ he ho
  unfold eOk at w3
  rw [h1] at w3
  rcases w3 with ⟨-, cA, f, t2, rfl, q1, q2⟩ | ⟨q1, -⟩ | ⟨q1, -⟩
  · have ag : ∀ j : Nat, j < 804 → (f j).toInt = σ 74 (j : Int) := fun j hj => hW.2.2.2.1 o 74 j _ ho hu.2 (by rw [gcv_at he, gcl_int hj])
    obtain ⟨w2, u1, u2, u3⟩ := q2 221 (show 221 < 804 by decide)
    rw [h2] at u1
    cases u1
    obtain ⟨w6, u4, u5, u6⟩ := q2 623 (show 623 < 804 by decide)
    rw [h4] at u4
    cases u4
    exact ⟨cA, f, rfl, xVP_z (n := 804) (fun j _ hj => ag j hj) (by omega) (by omega), xVP_z (n := 804) (fun j _ hj => ag j hj) (by omega) (by omega)⟩
  · cases q1
  · cases q1
theorem w_ofL {ws : va_W} {σ : vS} (H : vXh ST) (hu : uq 52 = true ∧ uq 74 = true) (hW : vWL tys so ad ST JL md ws0 uq ws σ) (hX : vX σ) : wOk so ad tys ST ws := by
  refine ⟨hW.1.1, hW.1.2.1, fun o t q hq ht => ⟨hW.1.2.2 o t q hq ht, ?_⟩⟩
  intro cA n f he
  constructor
  · rintro rfl
    obtain ⟨cA2, f2, e2, h⟩ := vP_52L H hu hW (a := q.1) (e := q.2) hq ht
    rw [e2] at he
    injection he with he
    injection he with _ he
    injection he with _ he
    injection he with he
    rw [← he]
    exact h.mpr hX.1
  · rintro rfl
    obtain ⟨cA2, f2, e2, h, h2⟩ := vP_74L H hu hW (a := q.1) (e := q.2) hq ht
    rw [e2] at he
    injection he with he
    injection he with _ he
    injection he with _ he
    injection he with he
    rw [← he]
    exact ⟨h.mpr hX.2.1, h2.mpr hX.2.2⟩
theorem of_wL {ws : va_W} {σ : vS} (H : vXh ST) (hu : uq 52 = true ∧ uq 74 = true) (hex : (∃ o : Nat, so[o]? = some 52) ∧ ∃ o : Nat, so[o]? = some 74) (hW : vWL tys so ad ST JL md ws0 uq ws σ) (hw : wOk so ad tys ST ws) : vX σ := by
  obtain ⟨⟨o1, ho1⟩, o2, ho2⟩ := hex
  obtain ⟨a1, e1, g1, -, -⟩ := w0_at hW.1 ho1
  obtain ⟨a2, e2, g2, -, -⟩ := w0_at hW.1 ho2
  obtain ⟨cA, f, rfl, h⟩ := vP_52L H hu hW g1 ho1
  obtain ⟨cB, f2, rfl, h2, h3⟩ := vP_74L H hu hW g2 ho2
  have x1 := x_at hw g1 ho1 _ _ _ rfl
  have x2 := x_at hw g2 ho2 _ _ _ rfl
  exact ⟨h.mp (x1.1 rfl), h2.mp (x2.2 rfl).1, h3.mp (x2.2 rfl).2⟩
/-- the numbers of a world, where they are not known already -/
theorem sg_exL (hU : ∀ t, uq t = true → ∀ o o2 : Nat, so[o]? = some t → so[o2]? = some t → o = o2) (ws : va_W) (σ : vS) : ∃ σ2 : vS, vsgL so uq ws σ2 ∧ ∀ (t : Nat) (i : Int), (∀ (o : Nat) (z : Int32), so[o]? = some t → 0 ≤ i → gcv ws o i.toNat = some (.int z) → z.toInt = σ t i) → (∀ (o : Nat) (z : Int64), so[o]? = some t → 0 ≤ i → gcv ws o i.toNat = some (.long z) → z.toInt = σ t i) → σ2 t i = σ t i := by
  classical
  refine ⟨fun t i => if h : ∃ (z : Int32) (o : Nat), so[o]? = some t ∧ 0 ≤ i ∧ gcv ws o i.toNat = some (.int z) then (Classical.choose h).toInt else if h2 : ∃ (z : Int64) (o : Nat), so[o]? = some t ∧ 0 ≤ i ∧ gcv ws o i.toNat = some (.long z) then (Classical.choose h2).toInt else σ t i, ⟨?_, ?_⟩, ?_⟩
  · intro o t i z ho hu hz
    have h : ∃ (z : Int32) (o : Nat), so[o]? = some t ∧ 0 ≤ (i : Int) ∧ gcv ws o (i : Int).toNat = some (.int z) := ⟨z, o, ho, by omega, hz⟩
    show z.toInt = if h : _ then _ else _
    rw [dif_pos h]
    obtain ⟨o2, h1, h2, h3⟩ := Classical.choose_spec h
    have e := hU t hu _ _ ho h1
    subst e
    have h3 : gcv ws o i = some (.int (Classical.choose h)) := h3
    rw [hz] at h3
    have h3 := Option.some.inj h3
    have h3 : z = Classical.choose h := by injection h3
    rw [← h3]
  · intro o t i z ho hu hz
    have h0 : ¬ ∃ (z : Int32) (o : Nat), so[o]? = some t ∧ 0 ≤ (i : Int) ∧ gcv ws o (i : Int).toNat = some (.int z) := by
      rintro ⟨z2, o2, k1, -, k3⟩
      have e := hU t hu _ _ ho k1
      subst e
      have k3 : gcv ws o i = some (.int z2) := k3
      rw [hz] at k3
      cases k3
    have h : ∃ (z : Int64) (o : Nat), so[o]? = some t ∧ 0 ≤ (i : Int) ∧ gcv ws o (i : Int).toNat = some (.long z) := ⟨z, o, ho, by omega, hz⟩
    show z.toInt = if h : _ then _ else _
    rw [dif_neg h0, dif_pos h]
    obtain ⟨o2, h1, h2, h3⟩ := Classical.choose_spec h
    have e := hU t hu _ _ ho h1
    subst e
    have h3 : gcv ws o i = some (.long (Classical.choose h)) := h3
    rw [hz] at h3
    have h3 := Option.some.inj h3
    have h3 : z = Classical.choose h := by injection h3
    rw [← h3]
  · intro t i hi hi2
    show (if h : _ then _ else _) = _
    by_cases h : ∃ (z : Int32) (o : Nat), so[o]? = some t ∧ 0 ≤ i ∧ gcv ws o i.toNat = some (.int z)
    · rw [dif_pos h]
      obtain ⟨o2, h1, h2, h3⟩ := Classical.choose_spec h
      exact hi o2 _ h1 h2 h3
    · rw [dif_neg h]
      by_cases g : ∃ (z : Int64) (o : Nat), so[o]? = some t ∧ 0 ≤ i ∧ gcv ws o i.toNat = some (.long z)
      · rw [dif_pos g]
        obtain ⟨o2, h1, h2, h3⟩ := Classical.choose_spec g
        exact hi2 o2 _ h1 h2 h3
      · rw [dif_neg g]
theorem vargs_invL {lv : List (Nat × Value)} : ∀ {vs : List vVL} {i : Nat}, vlRL so ad (vargsL vs i) lv → ∃ asx, vsRL so ad vs asx ∧ ∀ q ∈ lv_args i asx, q ∈ lv
  | [], i, _ => ⟨[], trivial, fun q hq => absurd hq List.not_mem_nil⟩
  | v :: vs, i, h => by
    have h : vlRL so ad ((i, v) :: vargsL vs (i + vcatL v)) lv := h
    obtain ⟨x, g1, g2⟩ := h _ List.mem_cons_self
    obtain ⟨asx, k1, k2⟩ := vargs_invL (vs := vs) (i := i + vcatL v) (fun q hq => h q (List.mem_cons_of_mem _ hq))
    refine ⟨x :: asx, ⟨g2, k1⟩, fun q hq => ?_⟩
    have hc := vvR_catL g2
    have e : (if x.category = 2 then i + 2 else i + 1) = i + vcatL v := by
      rcases lv_cat x with q | q
      · rw [if_neg (by omega), ← hc, q]
      · rw [if_pos q, ← hc, q]
    have hq : q ∈ (i, x) :: lv_args (if x.category = 2 then i + 2 else i + 1) asx := hq
    rw [e] at hq
    rcases List.mem_cons.mp hq with rfl | hq
    · exact g1
    · exact k2 q hq
theorem vOk_vL {f : aF} {x : Value} (h : vOk so ad f x) : ∃ v, vFitL f v ∧ vvRL so ad v x := by
  rcases f with q | t | u
  · obtain ⟨z, rfl, h1, h2⟩ := h
    exact ⟨.inl z.toInt, ⟨h1, h2⟩, z, rfl, rfl⟩
  · obtain ⟨o, a, h1, h2, rfl⟩ := h
    exact ⟨.inr (.inl t), rfl, o, a, h1, h2, rfl⟩
  · obtain ⟨z, rfl⟩ := h
    exact ⟨.inr (.inr z.toInt), trivial, z, rfl, rfl⟩
theorem v_vOkL {f : aF} {v : vVL} {x : Value} (h : vFitL f v) (hv : vvRL so ad v x) : vOk so ad f x := by
  rcases f with q | t | u
  · rcases v with n | r | m
    · obtain ⟨z, rfl, rfl⟩ := hv
      exact ⟨z, rfl, h.1, h.2⟩
    · exact absurd h id
    · exact absurd h id
  · rcases v with n | r | m
    · exact absurd h id
    · obtain ⟨o, a, h1, h2, rfl⟩ := hv
      have h : r = t := h
      subst h
      exact ⟨o, a, h1, h2, rfl⟩
    · exact absurd h id
  · rcases v with n | r | m
    · exact absurd h id
    · exact absurd h id
    · obtain ⟨z, rfl, -⟩ := hv
      exact ⟨z, rfl⟩
theorem vsOk_vL : ∀ {fs : List aF} {asx : List Value}, vsOk so ad fs asx → ∃ vs, vFitsL fs vs ∧ vsRL so ad vs asx
  | [], [], _ => ⟨[], trivial, trivial⟩
  | [], _ :: _, h => absurd h id
  | _ :: _, [], h => absurd h id
  | f :: fs, x :: asx, h => by
    obtain ⟨v, h1, h2⟩ := vOk_vL h.1
    obtain ⟨vs, g1, g2⟩ := vsOk_vL h.2
    exact ⟨v :: vs, ⟨h1, g1⟩, h2, g2⟩
theorem v_vsOkL : ∀ {fs : List aF} {vs : List vVL} {asx : List Value}, vFitsL fs vs → vsRL so ad vs asx → vsOk so ad fs asx
  | [], [], [], _, _ => trivial
  | [], _ :: _, _, h, _ => absurd h id
  | _ :: _, [], _, h, _ => absurd h id
  | [], [], _ :: _, _, h => absurd h id
  | _ :: _, _ :: _, [], _, h => absurd h id
  | f :: fs, v :: vs, x :: asx, h, g => ⟨v_vOkL h.1 g.1, v_vsOkL h.2 g.2⟩
theorem vsR_getL : ∀ {vs : List vVL} {xs : List Value} {k : Nat} {v : vVL}, vsRL so ad vs xs → vs[k]? = some v → ∃ x, xs[k]? = some x ∧ vvRL so ad v x
  | [], [], _, _, _, h => by simp at h
  | v0 :: vs, x0 :: xs, 0, v, h, hk => by
    rw [List.getElem?_cons_zero] at hk
    cases hk
    exact ⟨x0, List.getElem?_cons_zero, h.1⟩
  | v0 :: vs, x0 :: xs, k + 1, v, h, hk => by
    rw [List.getElem?_cons_succ] at hk
    rw [List.getElem?_cons_succ]
    exact vsR_getL h.2 hk
  | [], _ :: _, _, _, h, _ => absurd h id
  | _ :: _, [], _, _, h, _ => absurd h id
/-- a contract that holds, used -/
theorem v_conL (H : vXh ST) (hu : uq 52 = true ∧ uq 74 = true) (hex : (∃ o : Nat, so[o]? = some 52) ∧ ∃ o : Nat, so[o]? = some 74) (hU : ∀ t, uq t = true → ∀ o o2 : Nat, so[o]? = some t → so[o2]? = some t → o = o2) {q : eM × Nat} {c : aCon} (hc : cHolds b base LS xs D cl tys Tb NF l CN so ad ST JL q c) {vs : List vVL} {σ : vS} {K : vKL} (h : vSpCL so ST md uq c vs σ K) (hfc : ∀ al ∈ c.2.2.1, ∀ f ∈ al.2, ∀ af, c.2.1.reverse[f.1]? = some af → ∀ t : Nat, vs[af.1]? = some (.inr (.inl t)) → ∃ ob w, ST t = some (.inl ob) ∧ ob.2[af.2]? = some (.inl w)) : VGL b base LS xs D cl tys Tb NF l CN so ad ST JL md ws0 uq q.1 0 (vargsL vs 0) [] σ K := by
  intro Kg lv stA ws hW hl hs hK
  have e0 := vsR_nilL hs
  subst e0
  obtain ⟨asx, k1, k2⟩ := vargs_invL hl
  obtain ⟨h1, h2, h3, h4⟩ := h
  refine gG_sub k2 (gG_mono ?_ (hc asx ws (w_ofL H hu hW h2) hW.2.1 (v_vsOkL h1 k1)))
  intro rv ws2 ⟨p1, p2, p3, al, p4, p5, p6⟩
  obtain ⟨σ2, s1, s2⟩ := sg_exL hU ws2 σ
  have hW2 : vWL tys so ad ST JL md ws0 uq ws2 σ2 := ⟨⟨p1.1, p1.2.1, fun o t q hq ht => (p1.2.2 o t q hq ht).1⟩, p2, fRel_tr hW.2.2.1 p3 (amds_ok h3), s1⟩
  obtain ⟨ret, r1, r2⟩ : ∃ ret, vFrL al.1 ret ∧ vRtL so ad ret rv := by
    cases hal : al.1 with
    | none =>
      rw [hal] at p5
      cases rv with
      | none => exact ⟨none, trivial, trivial⟩
      | some x => exact absurd p5 id
    | some f =>
      rw [hal] at p5
      cases rv with
      | none => exact absurd p5 id
      | some x =>
        obtain ⟨v, v1, v2⟩ := vOk_vL (show vOk so ad f x from p5)
        exact ⟨some v, v1, v2⟩
  refine hK ret σ2 ws2 rv (h4 al p4 ret σ2 r1 (of_wL H hu hex hW2 p1) (vBd_ofL hW2) ?_ ?_) hW2 r2
  · intro t i hut hno
    refine s2 t i (fun o z ho hi hz => ?_) (fun o z ho hi hz => ?_)
    · have e := p3 o t i.toNat ho (fun q hq hh => hno q hq ⟨hh.1, by omega, by omega⟩)
      rw [e] at hz
      have := hW.2.2.2.1 o t i.toNat z ho hut hz
      rw [this, Int.toNat_of_nonneg hi]
    · have e := p3 o t i.toNat ho (fun q hq hh => hno q hq ⟨hh.1, by omega, by omega⟩)
      rw [e] at hz
      have := hW.2.2.2.2 o t i.toNat z ho hut hz
      rw [this, Int.toNat_of_nonneg hi]
  · intro f hf af t haf hvt hut
    obtain ⟨x, y1, o, a, y2, y3, rfl⟩ := vsR_getL k1 hvt
    obtain ⟨ob, w, b1, b2⟩ := hfc al p4 f hf af haf t hvt
    obtain ⟨a0, e0, g1, g2, g3⟩ := w0_at hW.1 y2
    unfold eOk at g3
    rw [b1] at g3
    obtain ⟨fs, rfl, l1, l2⟩ := g3
    have hlt : af.2 < fs.length := by rw [l1]; exact (List.getElem?_eq_some_iff.mp b2).1
    have hx := List.getElem?_eq_getElem hlt
    obtain ⟨z0, hz0, -, -⟩ := l2 _ _ _ b2 hx
    have hgv : gcv ws o af.2 = some (.int z0) := by rw [gcv_at g1, ← hz0]; exact hx
    obtain ⟨z1, t1, t2, t3, t4⟩ := p6 f hf af a o z0 haf y1 y3 hgv
    rw [← hW.2.2.2.1 o t _ z0 y2 hut hgv, ← s1.1 o t _ z1 y2 hut t1]
    exact ⟨t2, t3, t4⟩
/-- a contract, shown -/
theorem v_holdsL (H : vXh ST) (hu : uq 52 = true ∧ uq 74 = true) (hex : (∃ o : Nat, so[o]? = some 52) ∧ ∃ o : Nat, so[o]? = some 74) (hU : ∀ t, uq t = true → ∀ o o2 : Nat, so[o]? = some t → so[o2]? = some t → o = o2) {q : eM × Nat} {c : aCon} (h0 : ∀ al ∈ c.2.2.1, al.2 = []) (hc : ∀ (ws0 : va_W) (vs : List vVL) (σ : vS), vFitsL c.1 vs → vX σ → vBdL so ST uq σ → VGL b base LS xs D cl tys Tb NF l CN so ad ST JL c.2.2.2 ws0 uq q.1 0 (vargsL vs 0) [] σ (fun ret σ2 => vX σ2 ∧ ∃ al ∈ c.2.2.1, vFrL al.1 ret)) : cHolds b base LS xs D cl tys Tb NF l CN so ad ST JL q c := by
  intro asx ws hw hj hv
  obtain ⟨vs, v1, v2⟩ := vsOk_vL hv
  obtain ⟨σ, s1, -⟩ := sg_exL hU ws (fun _ _ => 0)
  have hW : vWL tys so ad ST JL c.2.2.2 ws uq ws σ := ⟨⟨hw.1, hw.2.1, fun o t q hq ht => (hw.2.2 o t q hq ht).1⟩, hj, fRel_refl, s1⟩
  refine hc ws vs σ v1 (of_wL H hu hex hW hw) (vBd_ofL hW) _ _ [] ws hW (vargs_okL 0 v2) trivial ?_
  intro ret σ2 ws2 rv ⟨x1, al, x2, x3⟩ hW2 hrt
  refine ⟨w_ofL H hu hW2 x1, hW2.2.1, hW2.2.2.1, al, x2, ?_, fun f hf => by rw [h0 al x2] at hf; exact absurd hf List.not_mem_nil⟩
  cases hal : al.1 with
  | none =>
    rw [hal] at x3
    cases ret with
    | none =>
      cases rv with
      | none => trivial
      | some x => exact absurd hrt id
    | some v => exact absurd x3 id
  | some f =>
    rw [hal] at x3
    cases ret with
    | none => exact absurd x3 id
    | some v =>
      cases rv with
      | none => exact absurd hrt id
      | some x => exact v_vOkL (show vFitL f v from x3) hrt
end VM
