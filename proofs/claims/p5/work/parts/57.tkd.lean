/-! THE EXACT WALK IS RIGHT, on: arrays, ends, calls. -/
section VJ
variable {b base LS : Nat} {xs : Nat → Int32} {D : va_G} {cl : List vw_C} {tys : List (ClassId × FieldType)} {Tb : List Cond} {NF : State → Prop} {l : Launch} {CN : Nat → String} {so ad : List Nat} {ST : Nat → Option aS} {JL : List aJ} {md : aMd} {ws0 : va_W} {uq : Nat → Bool}
theorem y_aldL {kind : Nat → Bool} {i : Instr} (hk : ∀ n, kind n = true → n < 3)
    (hg : ∀ {mi : eM} {pc : Nat} {lv : List (Nat × Value)} {st : List Value} {ws : va_W} {ce sl : Nat} {K : gK} {o a t0 n kd : Nat} {cA : ClassId} {f : Nat → Int32} {z : Int32}, (pc, i, 1) ∈ mi.2.2.2.2.2.2 → kind kd = true → ws[o]? = some (a, .inl (cA, n, .inl f)) → tys[t0]? = some (cA, ekt kd) → vp_in z n → gG b base LS xs D cl tys Tb NF l CN mi (pc + 1) lv (.int (f z.toNatClampNeg) :: st) ws ce sl K → gG b base LS xs D cl tys Tb NF l CN mi pc lv (.int z :: .ref a :: st) ws ce sl K) :
    vHsL b base LS xs D cl tys Tb NF l CN so ad ST JL md ws0 uq (yAldL ST uq kind) i 1 := by
  intro ih IH mi pc cd ls st σ K h hm hcd Kg lv stA ws hW hl hs hK
  unfold yAldL at h
  split at h
  · rename_i x t rest
    obtain ⟨iA, t1, rfl, ⟨z, rfl, e0⟩, g1⟩ := vsR_consL hs
    obtain ⟨xA, t0, rfl, g1, g2⟩ := vsR_consL g1
    subst e0
    split at h
    · rename_i ob hob
      obtain ⟨h1, hb, h⟩ := e_condP h
      rw [Bool.and_eq_true] at h1
      obtain ⟨v1, v2, v3⟩ := vp_z hb
      obtain ⟨o, a, e, rfl, w1, w2, w3⟩ := vr_atL hW.1 g1
      unfold eOk at w3
      rw [hob] at w3
      have h3 := hk _ h1.1
      rcases w3 with ⟨-, cA, f, t2, rfl, q1, q2⟩ | ⟨q1, -⟩ | ⟨q1, -⟩
      · have hgv : gcv ws o z.toNatClampNeg = some (.int (f z.toNatClampNeg)) := by rw [gcv_at w1, gcl_int v2]
        have hv := hW.2.2.2.1 o t _ _ w2 h1.2 hgv
        rw [v3] at hv
        exact hg hm h1.1 w1 q1 v1 (IH _ _ _ _ _ _ _ h hcd Kg lv _ ws hW hl ⟨⟨_, rfl, hv⟩, g2⟩ hK)
      · omega
      · omega
    · exact absurd h id
  · exact absurd h id
theorem y_ialdL : vHsL b base LS xs D cl tys Tb NF l CN so ad ST JL md ws0 uq (yAldL ST uq ekI) .iaload 1 := y_aldL (fun n h => by have := Nat.eq_of_beq_eq_true (show Nat.beq n 0 = true from h); omega) (fun {mi pc lv st ws ce sl K o a t0 n kd cA f z} hm hk he ht hin h => by
  have hk := Nat.eq_of_beq_eq_true (show Nat.beq kd 0 = true from hk)
  subst hk
  exact g_iald hm he ht hin h)
theorem y_baldL : vHsL b base LS xs D cl tys Tb NF l CN so ad ST JL md ws0 uq (yAldL ST uq ekB) .baload 1 := y_aldL (fun n h => by
  have h : (Nat.beq n 1 || Nat.beq n 2) = true := h
  rw [Bool.or_eq_true] at h
  rcases h with h | h
  · have := Nat.eq_of_beq_eq_true h; omega
  · have := Nat.eq_of_beq_eq_true h; omega) (fun {mi pc lv st ws ce sl K o a t0 n kd cA f z} hm hk he ht hin h => by
  have hk : (Nat.beq kd 1 || Nat.beq kd 2) = true := hk
  rw [Bool.or_eq_true] at hk
  rcases hk with hk | hk
  · have hk := Nat.eq_of_beq_eq_true hk
    subst hk
    exact g_bald hm he (Or.inl ht) hin h
  · have hk := Nat.eq_of_beq_eq_true hk
    subst hk
    exact g_bald hm he (Or.inr ht) hin h)
theorem y_laldL : vHsL b base LS xs D cl tys Tb NF l CN so ad ST JL md ws0 uq (yLaldL ST uq) .laload 1 := by
  intro ih IH mi pc cd ls st σ K h hm hcd Kg lv stA ws hW hl hs hK
  unfold yLaldL at h
  split at h
  · rename_i x t rest
    obtain ⟨iA, t1, rfl, ⟨z, rfl, e0⟩, g1⟩ := vsR_consL hs
    obtain ⟨xA, t0, rfl, g1, g2⟩ := vsR_consL g1
    subst e0
    split at h
    · rename_i ob hob
      obtain ⟨h1, hb, h⟩ := e_condP h
      rw [Bool.and_eq_true] at h1
      have hu := h1.2
      have h1 := Nat.eq_of_beq_eq_true h1.1
      obtain ⟨v1, v2, v3⟩ := vp_z hb
      obtain ⟨o, a, e, rfl, w1, w2, w3⟩ := vr_atL hW.1 g1
      unfold eOk at w3
      rw [hob] at w3
      rcases w3 with ⟨q1, -⟩ | ⟨-, cA, f, t2, rfl, q1⟩ | ⟨q1, -⟩
      · omega
      · have hgv : gcv ws o z.toNatClampNeg = some (.long (f z.toNatClampNeg)) := by
          rw [gcv_at w1]
          exact if_pos v2
        exact x_lald hm w1 q1 v1 (IH _ _ _ _ _ _ _ h hcd Kg lv _ ws hW hl ⟨⟨_, rfl, by rw [hW.2.2.2.2 o t _ _ w2 hu hgv, v3]⟩, g2⟩ hK)
      · omega
    · exact absurd h id
  · exact absurd h id
theorem v_arrL {ws : va_W} {σ : vS} (hU : ∀ t, uq t = true → ∀ o o2 : Nat, so[o]? = some t → so[o2]? = some t → o = o2) (hW : vWL tys so ad ST JL md ws0 uq ws σ) {o t a t3 : Nat} {ob : Nat × Nat × List (Nat × Int × Int) × Nat} {cA : ClassId} {f : Nat → Int32} (hob : ST t = some (.inr ob)) (w1 : ws[o]? = some (a, .inl (cA, ob.2.1, .inl f))) (w2 : so[o]? = some t) (q3 : ob.1 < 3) (q1 : tys[t3]? = some (cA, ekt ob.1)) (q2 : ∀ j, j < ob.2.1 → ∃ w, rgAt ob.2.2.1 j = some w ∧ w.1 ≤ (f j).toInt ∧ (f j).toInt ≤ w.2) {z zv : Int32} (hb : 0 ≤ z.toInt ∧ z.toInt < (ob.2.1 : Int)) (hj : vjn t JL = true) (hv : vRg ob.2.2.1 z.toInt zv.toInt) (hmd : ∃ q ∈ md, q.1 = t ∧ (q.2.1 : Int) ≤ z.toInt ∧ z.toInt < (q.2.2 : Int)) :
    vWL tys so ad ST JL md ws0 uq (ws.set o (a, .inl (cA, ob.2.1, .inl (upd f z.toNatClampNeg zv)))) (vup σ t z.toInt zv.toInt) := by
  obtain ⟨v1, v2, v3⟩ := vp_z hb
  have hE : eOk so ad tys ST t (.inl (cA, ob.2.1, .inl (upd f z.toNatClampNeg zv))) := by
    unfold eOk
    rw [hob]
    refine Or.inl ⟨q3, cA, _, t3, rfl, q1, fun j hj => ?_⟩
    obtain ⟨u, u1, u2, u3⟩ := q2 j hj
    refine ⟨u, u1, ?_⟩
    by_cases hji : j = z.toNatClampNeg
    · rw [show upd f z.toNatClampNeg zv j = zv from if_pos hji]
      exact vRg_ok hv (by omega) u1
    · rw [show upd f z.toNatClampNeg zv j = f j from if_neg hji]
      exact ⟨u2, u3⟩
  refine v_wrL hU hW w1 w2 hE (fun i hi => gcl_upd hi) (vjn_f hj _) (by rw [v3]; exact hmd) (by rw [v3]; exact vup_ne) (fun y _ hy => ?_) (fun y _ hy => by rw [gcl_int v2] at hy; cases hy)
  rw [gcl_int v2, show upd f z.toNatClampNeg zv z.toNatClampNeg = zv from if_pos rfl] at hy
  have hy := Option.some.inj hy
  have hy : zv = y := by injection hy
  rw [v3, vup_eq, hy]
theorem y_iastL (hU : ∀ t, uq t = true → ∀ o o2 : Nat, so[o]? = some t → so[o2]? = some t → o = o2) : vHsL b base LS xs D cl tys Tb NF l CN so ad ST JL md ws0 uq (yIastL ST JL md uq) .iastore 1 := by
  intro ih IH mi pc cd ls st σ K h hm hcd Kg lv stA ws hW hl hs hK
  unfold yIastL at h
  split at h
  · rename_i v x t rest
    obtain ⟨vA, t2, rfl, ⟨zv, rfl, ev⟩, gA⟩ := vsR_consL hs
    obtain ⟨iA, t1, rfl, ⟨z, rfl, e0⟩, gB⟩ := vsR_consL gA
    obtain ⟨xA, t0, rfl, g1, g2⟩ := vsR_consL gB
    subst e0
    subst ev
    split at h
    · rename_i ob hob
      obtain ⟨h1, hb, hv, h⟩ := e_condP h
      rw [Bool.and_eq_true, Bool.and_eq_true] at h1
      have hkd := Nat.eq_of_beq_eq_true h1.1
      obtain ⟨hmd, h⟩ := yMd_ok hb.1 hb.2 h
      obtain ⟨o, a, e, rfl, w1, w2, w3⟩ := vr_atL hW.1 g1
      unfold eOk at w3
      rw [hob] at w3
      rcases w3 with ⟨q3, cA, f, t3, rfl, q1, q2⟩ | ⟨q1, -⟩ | ⟨q1, -⟩
      · have hW2 := v_arrL hU hW hob w1 w2 q3 q1 q2 hb h1.2.2 hv hmd
        have q1 : tys[t3]? = some (cA, .int) := by rw [hkd] at q1; exact q1
        exact g_iast hm w1 q1 (vp_z hb).1 (IH _ _ _ _ _ _ _ h hcd Kg lv _ _ hW2 hl g2 hK)
      · omega
      · omega
    · exact absurd h id
  · exact absurd h id
theorem y_zastL (hU : ∀ t, uq t = true → ∀ o o2 : Nat, so[o]? = some t → so[o2]? = some t → o = o2) : vHsL b base LS xs D cl tys Tb NF l CN so ad ST JL md ws0 uq (yZastL ST JL md uq) .bastore 1 := by
  intro ih IH mi pc cd ls st σ K h hm hcd Kg lv stA ws hW hl hs hK
  unfold yZastL at h
  split at h
  · rename_i v x t rest
    obtain ⟨vA, t2, rfl, ⟨zv, rfl, ev⟩, gA⟩ := vsR_consL hs
    obtain ⟨iA, t1, rfl, ⟨z, rfl, e0⟩, gB⟩ := vsR_consL gA
    obtain ⟨xA, t0, rfl, g1, g2⟩ := vsR_consL gB
    subst e0
    subst ev
    split at h
    · rename_i ob hob
      obtain ⟨h1, hb, hz, hv, h⟩ := e_condP h
      rw [Bool.and_eq_true, Bool.and_eq_true, Bool.and_eq_true] at h1
      have hkd := Nat.eq_of_beq_eq_true h1.1
      obtain ⟨hmd, h⟩ := yMd_ok hb.1 hb.2 h
      obtain ⟨o, a, e, rfl, w1, w2, w3⟩ := vr_atL hW.1 g1
      unfold eOk at w3
      rw [hob] at w3
      rcases w3 with ⟨q3, cA, f, t3, rfl, q1, q2⟩ | ⟨q1, -⟩ | ⟨q1, -⟩
      · have hW2 := v_arrL hU hW hob w1 w2 q3 q1 q2 hb h1.2.2.1 hv hmd
        have q1 : tys[t3]? = some (cA, .boolean) := by rw [hkd] at q1; exact q1
        refine g_bast hm w1 q1 (Or.inr rfl) (vp_z hb).1 ?_
        rw [i_nz zv (by omega)]
        exact IH _ _ _ _ _ _ _ h hcd Kg lv _ _ hW2 hl g2 hK
      · omega
      · omega
    · exact absurd h id
  · exact absurd h id
theorem y_lastL (hU : ∀ t, uq t = true → ∀ o o2 : Nat, so[o]? = some t → so[o2]? = some t → o = o2) : vHsL b base LS xs D cl tys Tb NF l CN so ad ST JL md ws0 uq (yLastL ST JL md uq) .lastore 1 := by
  intro ih IH mi pc cd ls st σ K h hm hcd Kg lv stA ws hW hl hs hK
  unfold yLastL at h
  split at h
  · rename_i u x t rest
    obtain ⟨vA, t2, rfl, ⟨zv, rfl, ev⟩, gA⟩ := vsR_consL hs
    obtain ⟨iA, t1, rfl, ⟨z, rfl, e0⟩, gB⟩ := vsR_consL gA
    obtain ⟨xA, t0, rfl, g1, g2⟩ := vsR_consL gB
    subst e0
    split at h
    · rename_i ob hob
      obtain ⟨h1, hb, h⟩ := e_condP h
      rw [Bool.and_eq_true, Bool.and_eq_true] at h1
      have hkd := Nat.eq_of_beq_eq_true h1.1
      obtain ⟨hmd, h⟩ := yMd_ok hb.1 hb.2 h
      obtain ⟨v1, v2, v3⟩ := vp_z hb
      obtain ⟨o, a, e, rfl, w1, w2, w3⟩ := vr_atL hW.1 g1
      unfold eOk at w3
      rw [hob] at w3
      rcases w3 with ⟨q1, -⟩ | ⟨q3, cA, f, t3, rfl, q1⟩ | ⟨q1, -⟩
      · omega
      · have hE : eOk so ad tys ST t (.inl (cA, ob.2.1, .inr (.inl (vp_updL f z.toNatClampNeg zv)))) := by
          unfold eOk
          rw [hob]
          exact Or.inr (Or.inl ⟨q3, cA, _, t3, rfl, q1⟩)
        have hW2 := v_wrL hU hW w1 w2 hE (fun i hi => gcl_updL hi) (vjn_f h1.2.2 _) (by rw [v3]; exact hmd) (σ2 := vup σ t z.toInt u) (by rw [v3]; exact vup_ne) (fun y _ hy => by
          have hy : (if z.toNatClampNeg < ob.2.1 then some (Value.long (vp_updL f z.toNatClampNeg zv z.toNatClampNeg)) else none) = some (.int y) := hy
          rw [if_pos v2] at hy
          cases hy) (fun y _ hy => by
          have hy : (if z.toNatClampNeg < ob.2.1 then some (Value.long (vp_updL f z.toNatClampNeg zv z.toNatClampNeg)) else none) = some (.long y) := hy
          rw [if_pos v2, show vp_updL f z.toNatClampNeg zv z.toNatClampNeg = zv from if_pos rfl] at hy
          have hy := Option.some.inj hy
          have hy : zv = y := by injection hy
          rw [v3, vup_eq, ← hy, ev])
        exact g_last hm w1 q1 v1 (IH _ _ _ _ _ _ _ h hcd Kg lv _ _ hW2 hl g2 hK)
      · omega
    · exact absurd h id
  · exact absurd h id
theorem y_bastL (hU : ∀ t, uq t = true → ∀ o o2 : Nat, so[o]? = some t → so[o2]? = some t → o = o2) : vHsL b base LS xs D cl tys Tb NF l CN so ad ST JL md ws0 uq (yBastL ST JL md uq) .bastore 1 := by
  intro ih IH mi pc cd ls st σ K h hm hcd Kg lv stA ws hW hl hs hK
  unfold yBastL at h
  split at h
  · rename_i v x t rest
    obtain ⟨vA, t2, rfl, ⟨zv, rfl, ev⟩, gA⟩ := vsR_consL hs
    obtain ⟨iA, t1, rfl, ⟨z, rfl, e0⟩, gB⟩ := vsR_consL gA
    obtain ⟨xA, t0, rfl, g1, g2⟩ := vsR_consL gB
    subst e0
    subst ev
    split at h
    · rename_i ob hob
      obtain ⟨h1, hb, hz, hv, h⟩ := e_condP h
      rw [Bool.and_eq_true, Bool.and_eq_true, Bool.and_eq_true] at h1
      have hkd := Nat.eq_of_beq_eq_true h1.1
      obtain ⟨hmd, h⟩ := yMd_ok hb.1 hb.2 h
      obtain ⟨o, a, e, rfl, w1, w2, w3⟩ := vr_atL hW.1 g1
      unfold eOk at w3
      rw [hob] at w3
      rcases w3 with ⟨q3, cA, f, t3, rfl, q1, q2⟩ | ⟨q1, -⟩ | ⟨q1, -⟩
      · have hW2 := v_arrL hU hW hob w1 w2 q3 q1 q2 hb h1.2.2.1 hv hmd
        have q1 : tys[t3]? = some (cA, .byte) := by rw [hkd] at q1; exact q1
        refine g_bast hm w1 q1 (Or.inl rfl) (vp_z hb).1 ?_
        rw [show vp_nar .byte zv = zv from nar_b (by omega)]
        exact IH _ _ _ _ _ _ _ h hcd Kg lv _ _ hW2 hl g2 hK
      · omega
      · omega
    · exact absurd h id
  · exact absurd h id
/-- bytes or booleans -/
theorem y_bzL (hU : ∀ t, uq t = true → ∀ o o2 : Nat, so[o]? = some t → so[o2]? = some t → o = o2) : vHsL b base LS xs D cl tys Tb NF l CN so ad ST JL md ws0 uq (yBzL ST JL md uq) .bastore 1 := by
  intro ih IH mi pc cd ls st σ K h hm hcd Kg lv stA ws hW hl hs hK
  rcases h with h | h
  · exact y_zastL hU ih IH mi pc cd ls st σ K h hm hcd Kg lv stA ws hW hl hs hK
  · exact y_bastL hU ih IH mi pc cd ls st σ K h hm hcd Kg lv stA ws hW hl hs hK
theorem y_lretL : vHsL b base LS xs D cl tys Tb NF l CN so ad ST JL md ws0 uq yLretL .lreturn 1 := by
  intro ih IH mi pc cd ls st σ K h hm hcd Kg lv stA ws hW hl hs hK
  unfold yLretL at h
  split at h
  · obtain ⟨vA, t, rfl, ⟨z, rfl, e⟩, g2⟩ := vsR_consL hs
    have ht := vsR_nilL g2
    subst ht
    obtain ⟨h1, h⟩ := e_condP h
    exact g_lreturn hm (Nat.eq_of_beq_eq_true h1) (Nat.zero_le _) (Nat.zero_le _) (hK _ σ ws _ h hW ⟨z, rfl, e⟩)
  · exact absurd h id
theorem y_aretL : vHsL b base LS xs D cl tys Tb NF l CN so ad ST JL md ws0 uq yAretL .areturn 1 := by
  intro ih IH mi pc cd ls st σ K h hm hcd Kg lv stA ws hW hl hs hK
  unfold yAretL at h
  split at h
  · obtain ⟨vA, t, rfl, ⟨o, a, e1, e2, rfl⟩, g2⟩ := vsR_consL hs
    have ht := vsR_nilL g2
    subst ht
    obtain ⟨h1, h⟩ := e_condP h
    exact g_areturn hm (Nat.eq_of_beq_eq_true h1) (Nat.zero_le _) (Nat.zero_le _) (hK _ σ ws _ h hW ⟨o, a, e1, e2, rfl⟩)
  · exact absurd h id
theorem ysw_ok {x : Int} {go : Int → Prop} : ∀ {offs : List Int} {b : Int}, yswL x go offs b → ∀ n : Nat, x = b + (n : Int) → n < offs.length → ∃ off, offs[n]? = some off ∧ go off
  | [], b, _, n, _, hn => absurd hn (Nat.not_lt_zero _)
  | off :: offs, b, h, 0, hx, _ => ⟨off, rfl, h.1 (by omega)⟩
  | off :: offs, b, h, n + 1, hx, hn => by
    obtain ⟨o2, g1, g2⟩ := ysw_ok (b := b + 1) h.2 n (by omega) (Nat.lt_of_succ_lt_succ hn)
    exact ⟨o2, by rw [List.getElem?_cons_succ]; exact g1, g2⟩
theorem y_swL {d lo hi : Int} {offs : Array Int} {len : Nat} : vHsL b base LS xs D cl tys Tb NF l CN so ad ST JL md ws0 uq (ySwL d lo hi offs) (.tableswitch d lo hi offs) len := by
  intro ih IH mi pc cd ls st σ K h hm hcd Kg lv stA ws hW hl hs hK
  unfold ySwL at h
  split at h
  · rename_i x r
    obtain ⟨xA, t, rfl, ⟨z, rfl, e0⟩, g2⟩ := vsR_consL hs
    subst e0
    obtain ⟨h0, h1, h2⟩ := e_condP h
    have h0 := of_decide_eq_true h0
    have jmp : ∀ off, yJmpL ih mi pc off ls r σ K → ∃ t2 : Nat, (pc : Int) + off = (t2 : Int) ∧ gG b base LS xs D cl tys Tb NF l CN mi t2 lv t ws 0 0 Kg := fun off hj => by
      unfold yJmpL at hj
      split at hj
      · rename_i t2 ht2
        split at hj
        · rename_i cd2 hcd2
          exact ⟨t2, ht2, IH _ _ _ _ _ _ _ hj ⟨fun q hq => ej_ok hcd2 q hq, hcd.2⟩ Kg lv _ ws hW hl g2 hK⟩
        · exact absurd hj id
      · exact absurd hj id
    refine g_table hm (fun q => jmp d (h2 q)) (fun q => ?_)
    obtain ⟨off, k1, k2⟩ := ysw_ok h1 (z.toInt - lo).toNat (by omega) (by omega)
    obtain ⟨t2, k3, k4⟩ := jmp off k2
    exact ⟨off, t2, k1, k3, k4⟩
  · exact absurd h id
theorem y_retL : vHsL b base LS xs D cl tys Tb NF l CN so ad ST JL md ws0 uq yRetL .ireturn 1 := by
  intro ih IH mi pc cd ls st σ K h hm hcd Kg lv stA ws hW hl hs hK
  unfold yRetL at h
  split at h
  · rename_i x
    obtain ⟨vA, t, rfl, ⟨z, rfl, e⟩, g2⟩ := vsR_consL hs
    have ht := vsR_nilL g2
    subst ht
    cases h1 : Nat.beq mi.2.2.2.2.2.1 1 with
    | true =>
      rw [h1, cond_true] at h
      exact g_ireturn hm (Or.inl (Nat.eq_of_beq_eq_true h1)) (Nat.zero_le _) (Nat.zero_le _) (hK _ σ ws _ h hW ⟨z, rfl, e⟩)
    | false =>
      rw [h1, cond_false] at h
      obtain ⟨h2, h3, h⟩ := e_condP h
      have hz : z.toInt = 0 ∨ z.toInt = 1 := by omega
      refine g_ireturn hm (Or.inr ⟨Or.inl (Nat.eq_of_beq_eq_true h2), ?_⟩) (Nat.zero_le _) (Nat.zero_le _) (hK _ σ ws _ h hW ⟨z, rfl, e⟩)
      rcases hz with hz | hz
      · exact Or.inl (Int32.toInt_inj.mp hz)
      · exact Or.inr (Int32.toInt_inj.mp hz)
  · exact absurd h id
theorem y_retvL : vHsL b base LS xs D cl tys Tb NF l CN so ad ST JL md ws0 uq yRetvL .return_ 1 := by
  intro ih IH mi pc cd ls st σ K h hm hcd Kg lv stA ws hW hl hs hK
  unfold yRetvL at h
  split at h
  · have ht := vsR_nilL hs
    subst ht
    obtain ⟨h1, h⟩ := e_condP h
    exact g_return hm (Nat.eq_of_beq_eq_true h1) (Nat.zero_le _) (Nat.zero_le _) (hK _ σ ws none h hW trivial)
  · exact absurd h id
theorem y_callL {CL : eFL} {MT : Nat → Option (eM × Nat)} {SP : Nat → Option vSpL} (hTg : ∀ w ∈ Tb, goodWord w = true) (hN : eNFw base NF) (hC : gCok cl Tb NF CN CL MT) (hSP : ∀ mno q sp, MT mno = some q → SP mno = some sp → ∀ vs σ K, sp vs σ K → VGL b base LS xs D cl tys Tb NF l CN so ad ST JL md ws0 uq q.1 0 (vargsL vs 0) [] σ K) {i : Instr} {op idx : Nat} (hop : (i = .invokestatic idx ∧ op = 0) ∨ (i = .invokevirtual idx ∧ op = 1)) :
    vHsL b base LS xs D cl tys Tb NF l CN so ad ST JL md ws0 uq (yCallL CL MT ST SP op idx) i 3 := by
  intro ih IH mi pc cd ls st σ K h hm hcd Kg lv stA ws hW hl hs hK
  unfold yCallL at h
  split at h
  · rename_i kd mno n hcl
    obtain ⟨hkk, h⟩ := e_condP h
    have hop2 : (i = .invokestatic idx ∧ (kd = 0 ∨ kd = 3)) ∨ (i = .invokevirtual idx ∧ (kd = 1 ∨ kd = 4)) := by
      rcases hop with ⟨h1, rfl⟩ | ⟨h1, rfl⟩
      · have hkk : (Nat.beq kd 0 || Nat.beq kd 3) = true := hkk
        rw [Bool.or_eq_true] at hkk
        exact Or.inl ⟨h1, hkk.elim (fun q => Or.inl (Nat.eq_of_beq_eq_true q)) (fun q => Or.inr (Nat.eq_of_beq_eq_true q))⟩
      · have hkk : (Nat.beq kd 1 || Nat.beq kd 4) = true := hkk
        rw [Bool.or_eq_true] at hkk
        exact Or.inr ⟨h1, hkk.elim (fun q => Or.inl (Nat.eq_of_beq_eq_true q)) (fun q => Or.inr (Nat.eq_of_beq_eq_true q))⟩
    split at h
    · rename_i q hq
      obtain ⟨vs, r, asx, rx, h, h1, h2, h3, h4⟩ := vtake_okL (acc := []) (accA := []) n hs trivial h
      rw [List.reverse_nil, List.nil_append] at h3
      rw [List.length_nil, Nat.zero_add] at h4
      obtain ⟨h5, h⟩ := e_condP h
      rw [Bool.and_eq_true] at h5
      obtain ⟨hroom, hrecv⟩ := h5
      unfold vroomL at hroom
      simp only [Bool.and_eq_true] at hroom
      obtain ⟨r1, r2, r3, r4, r5, r6⟩ := hroom
      have r1 := Nat.le_of_ble_eq_true r1
      have r2 := Nat.le_of_ble_eq_true r2
      have r3 := Nat.eq_of_beq_eq_true r3
      have r4 := Nat.eq_of_beq_eq_true r4
      have r5 := Nat.le_of_ble_eq_true r5
      have r6 := Nat.le_of_ble_eq_true r6
      obtain ⟨y, cc2, ret, ok, lk, hcls⟩ := hC _ _ _ _ _ hcl (by rcases hop2 with ⟨-, z | z⟩ | ⟨-, z | z⟩ <;> omega) q hq
      have hrm : gRoom mi q.1 q.2 0 0 asx rx := ⟨r1, r2, by omega, by omega, by rw [vsR_catsL h2]; exact r5, by rw [vsR_catsL h1]; exact r6⟩
      have hrc : (kd = 1 ∨ kd = 4) → ∃ (o a : Nat) (fs asx2 : List Value), asx = .ref a :: asx2 ∧ ws[o]? = some (a, (.inr (q.1.1, fs) : va_E)) := fun hk => by
        unfold vrecvL at hrecv
        have hkk : (Nat.beq kd 0 || Nat.beq kd 3) = false := by
          rcases hk with rfl | rfl <;> rfl
        rw [hkk, cond_false] at hrecv
        split at hrecv
        · rename_i t vs2
          split at hrecv
          · rename_i ob hob
            obtain ⟨x, asx2, rfl, g1, g2⟩ := vsR_consL h1
            obtain ⟨o, a, e, rfl, w1, w2, w3⟩ := vr_atL hW.1 g1
            unfold eOk at w3
            rw [hob] at w3
            obtain ⟨fs, rfl, -, -⟩ := w3
            rw [Nat.eq_of_beq_eq_true hrecv] at w1
            exact ⟨o, a, fs, asx2, rfl, w1⟩
          · cases hrecv
        · cases hrecv
      refine g_call hTg hN ok lk hcls hop2 hm hrm h3 h4 hrc ?_
      rw [r3, r4]
      have fin : vKoL tys so ad ST JL md ws0 uq (fun ret σ => match ret with
          | some v => ih mi (pc + 3) cd ls (v :: r) σ K
          | none => ih mi (pc + 3) cd ls r σ K) (fun rt ws2 => gG b base LS xs D cl tys Tb NF l CN mi (pc + 3) lv (rt.toList ++ rx) ws2 (0 + 0) (0 + 0) Kg) := by
        intro rv σ2 ws2 rt hk hW2 hrt
        cases rv with
        | none =>
          cases rt with
          | none => exact IH _ _ _ _ _ _ _ hk hcd Kg lv _ ws2 hW2 hl h2 hK
          | some x => exact absurd hrt id
        | some v =>
          cases rt with
          | none => exact absurd hrt id
          | some x => exact IH _ _ _ _ _ _ _ hk hcd Kg lv _ ws2 hW2 hl ⟨hrt, h2⟩ hK
      split at h
      · rename_i sp hsp
        exact hSP mno q sp hq hsp vs σ _ h _ _ [] ws hW (vargs_okL 0 h1) trivial fin
      · exact IH _ _ _ _ _ _ _ h ⟨fun q hq => hq, fun t ht => (ok.2.2.2.2.2.1 t ht).1.2.2⟩ _ _ [] ws hW (vargs_okL 0 h1) trivial fin
    · exact absurd h id
  · exact absurd h id
variable {FL CL : eFL} {MT : Nat → Option (eM × Nat)} {KI : Nat → Nat → Option Nat} {KL : Nat → Nat → Option Int} {SP : Nat → Option vSpL}
/-- what the exact walk rests on -/
def vValL (b base LS : Nat) (xs : Nat → Int32) (D : va_G) (cl : List vw_C) (tys : List (ClassId × FieldType)) (Tb : List Cond) (NF : State → Prop) (l : Launch) (CN : Nat → String) (so ad : List Nat) (ST : Nat → Option aS) (JL : List aJ) (FL CL : eFL) (MT : Nat → Option (eM × Nat)) (KI : Nat → Nat → Option Nat) (KL : Nat → Nat → Option Int) (md : aMd) (ws0 : va_W) (uq : Nat → Bool) (SP : Nat → Option vSpL) : Prop :=
  (∀ w ∈ Tb, goodWord w = true) ∧ eNFw base NF ∧ eFOK cl Tb CN FL ∧ gCok cl Tb NF CN CL MT ∧ eKOK Tb CN KI ∧ xJOK Tb CN KL ∧ (∀ t, uq t = true → ∀ o o2 : Nat, so[o]? = some t → so[o2]? = some t → o = o2) ∧ ∀ mno q sp, MT mno = some q → SP mno = some sp → ∀ vs σ K, sp vs σ K → VGL b base LS xs D cl tys Tb NF l CN so ad ST JL md ws0 uq q.1 0 (vargsL vs 0) [] σ K
theorem v_DL (V : vValL b base LS xs D cl tys Tb NF l CN so ad ST JL FL CL MT KI KL md ws0 uq SP) {wd : List Nat} (i : Instr) (len : Nat) (hlen : elen i len = true) : vHsL b base LS xs D cl tys Tb NF l CN so ad ST JL md ws0 uq (yDL FL CL MT KI KL ST JL md uq SP wd i len) i len := by
  obtain ⟨v1, v2, v3, v4, v5, v6, v7, v8⟩ := V
  have bad : vHsL b base LS xs D cl tys Tb NF l CN so ad ST JL md ws0 uq yBadL i len := fun ih IH mi pc cd ls st σ K h => absurd h id
  have e1 : ∀ z : Int32, Int32.ofInt z.toInt = z := fun z => Int32.ofInt_toInt z
  cases i with
  | iload j => have q := Nat.eq_of_beq_eq_true hlen; subst q; exact y_loadL (Or.inl ⟨rfl, rfl⟩)
  | iload_n j => have q := Nat.eq_of_beq_eq_true hlen; subst q; exact y_loadL (Or.inr ⟨j, rfl, rfl, rfl⟩)
  | lload_n j => have q := Nat.eq_of_beq_eq_true hlen; subst q; exact y_lloaL
  | aload j => have q := Nat.eq_of_beq_eq_true hlen; subst q; exact y_loadrL (Or.inl ⟨rfl, rfl⟩)
  | aload_n j => have q := Nat.eq_of_beq_eq_true hlen; subst q; exact y_loadrL (Or.inr ⟨j, rfl, rfl, rfl⟩)
  | istore j => have q := Nat.eq_of_beq_eq_true hlen; subst q; exact y_storL (Or.inl ⟨rfl, rfl⟩)
  | istore_n j => have q := Nat.eq_of_beq_eq_true hlen; subst q; exact y_storL (Or.inr ⟨j, rfl, rfl, rfl⟩)
  | iconst n => have q := Nat.eq_of_beq_eq_true hlen; subst q; exact y_pushL (fun a b => g_iconst a b)
  | bipush n =>
    have hl : (Nat.beq len 2 && decide (-128 ≤ n ∧ n < 128)) = true := hlen
    rw [Bool.and_eq_true] at hl
    have q := Nat.eq_of_beq_eq_true hl.1
    subst q
    exact y_pushL (fun a b => g_bipush a b)
  | sipush n =>
    have hl : (Nat.beq len 3 && decide (-32768 ≤ n ∧ n < 32768)) = true := hlen
    rw [Bool.and_eq_true] at hl
    have q := Nat.eq_of_beq_eq_true hl.1
    subst q
    exact y_pushL (fun a b => g_sipush a b)
  | lconst n => have q := Nat.eq_of_beq_eq_true hlen; subst q; exact y_lconL
  | ldc_w idx => have q := Nat.eq_of_beq_eq_true hlen; subst q; exact y_ldcL v5 (Or.inr ⟨rfl, rfl⟩)
  | ldc idx => have q := Nat.eq_of_beq_eq_true hlen; subst q; exact y_ldcL v5 (Or.inl ⟨rfl, rfl⟩)
  | ldc2_w idx => have q := Nat.eq_of_beq_eq_true hlen; subst q; exact y_longL v6
  | iinc j n => have q := Nat.eq_of_beq_eq_true hlen; subst q; exact y_incL
  | iadd => have q := Nat.eq_of_beq_eq_true hlen; subst q; exact y_arwL (op := fun x y => x + y) (fun x y h => i_add h.1 h.2) (fun x y => by unfold vadd; rw [e1, e1]) (fun a b => g_iadd a b)
  | isub => have q := Nat.eq_of_beq_eq_true hlen; subst q; exact y_arwL (op := fun x y => x - y) (fun x y h => i_sub h.1 h.2) (fun x y => by unfold vsub; rw [e1, e1]) (fun a b => g_isub a b)
  | imul => have q := Nat.eq_of_beq_eq_true hlen; subst q; exact y_arwL (op := fun x y => x * y) (fun x y h => i_mul h.1 h.2) (fun x y => by unfold vmulw; rw [e1, e1]) (fun a b => g_imul a b)
  | iand => have q := Nat.eq_of_beq_eq_true hlen; subst q; exact y_binL (op := fun x y => x &&& y) (fun x y => by unfold vand; rw [e1, e1]) (fun a b => g_iand a b)
  | ior => have q := Nat.eq_of_beq_eq_true hlen; subst q; exact y_binL (op := fun x y => x ||| y) (fun x y => by unfold vor; rw [e1, e1]) (fun a b => g_ior a b)
  | ixor => have q := Nat.eq_of_beq_eq_true hlen; subst q; exact y_binL (op := fun x y => x ^^^ y) (fun x y => by unfold vxor; rw [e1, e1]) (fun a b => g_ixor a b)
  | ishl => have q := Nat.eq_of_beq_eq_true hlen; subst q; exact y_binL (op := fun x y => x <<< (y &&& 31)) (fun x y => by unfold vshl; rw [e1, e1]) (fun a b => g_ishl a b)
  | ishr => have q := Nat.eq_of_beq_eq_true hlen; subst q; exact y_binL (op := fun x y => x >>> (y &&& 31)) (fun x y => by unfold vshr; rw [e1, e1]) (fun a b => g_ishr a b)
  | lcmp => have q := Nat.eq_of_beq_eq_true hlen; subst q; exact y_lcmpL
  | i2l => have q := Nat.eq_of_beq_eq_true hlen; subst q; exact y_i2lL
  | lor => have q := Nat.eq_of_beq_eq_true hlen; subst q; exact y_lbinL
  | ladd => have q := Nat.eq_of_beq_eq_true hlen; subst q; exact y_lawL (op := fun x y => x + y) (fun x y h => l_add h.1 h.2) (fun a b => x_ladd a b)
  | lmul => have q := Nat.eq_of_beq_eq_true hlen; subst q; exact y_lawL (op := fun x y => x * y) (fun x y h => l_mul h.1 h.2) (fun a b => x_lmul a b)
  | arraylength => have q := Nat.eq_of_beq_eq_true hlen; subst q; exact y_alenL
  | lstore_n j => have q := Nat.eq_of_beq_eq_true hlen; subst q; exact y_lstoL
  | astore j => have q := Nat.eq_of_beq_eq_true hlen; subst q; exact y_strrL (Or.inl ⟨rfl, rfl⟩)
  | astore_n j => have q := Nat.eq_of_beq_eq_true hlen; subst q; exact y_strrL (Or.inr ⟨j, rfl, rfl, rfl⟩)
  | i2b => have q := Nat.eq_of_beq_eq_true hlen; subst q; exact y_i2bL
  | tableswitch d lo hi offs => exact y_swL
  | lreturn => have q := Nat.eq_of_beq_eq_true hlen; subst q; exact y_lretL
  | areturn => have q := Nat.eq_of_beq_eq_true hlen; subst q; exact y_aretL
  | lshl => have q := Nat.eq_of_beq_eq_true hlen; subst q; exact y_lshlL
  | dup => have q := Nat.eq_of_beq_eq_true hlen; subst q; exact y_dupL
  | dup2 => have q := Nat.eq_of_beq_eq_true hlen; subst q; exact y_dup2L
  | dup_x1 => have q := Nat.eq_of_beq_eq_true hlen; subst q; exact y_dupxL
  | pop => have q := Nat.eq_of_beq_eq_true hlen; subst q; exact y_popL
  | goto off => have q := Nat.eq_of_beq_eq_true hlen; subst q; exact y_gotoL
  | ifCond c off => have q := Nat.eq_of_beq_eq_true hlen; subst q; exact y_ifL
  | if_icmp c off => have q := Nat.eq_of_beq_eq_true hlen; subst q; exact y_icmpL
  | getfield idx => have q := Nat.eq_of_beq_eq_true hlen; subst q; exact y_getL v3
  | putfield idx => have q := Nat.eq_of_beq_eq_true hlen; subst q; exact y_putL v3 v7
  | iaload => have q := Nat.eq_of_beq_eq_true hlen; subst q; exact y_ialdL
  | baload => have q := Nat.eq_of_beq_eq_true hlen; subst q; exact y_baldL
  | laload => have q := Nat.eq_of_beq_eq_true hlen; subst q; exact y_laldL
  | lastore => have q := Nat.eq_of_beq_eq_true hlen; subst q; exact y_lastL v7
  | iastore => have q := Nat.eq_of_beq_eq_true hlen; subst q; exact y_iastL v7
  | bastore => have q := Nat.eq_of_beq_eq_true hlen; subst q; exact y_bzL v7
  | ireturn => have q := Nat.eq_of_beq_eq_true hlen; subst q; exact y_retL
  | return_ => have q := Nat.eq_of_beq_eq_true hlen; subst q; exact y_retvL
  | invokestatic idx => have q := Nat.eq_of_beq_eq_true hlen; subst q; exact y_callL v1 v2 v4 v8 (Or.inl ⟨rfl, rfl⟩)
  | invokevirtual idx => have q := Nat.eq_of_beq_eq_true hlen; subst q; exact y_callL v1 v2 v4 v8 (Or.inr ⟨rfl, rfl⟩)
  | _ => exact bad
theorem v_exeL (V : vValL b base LS xs D cl tys Tb NF l CN so ad ST JL FL CL MT KI KL md ws0 uq SP) {wd : List Nat} {ih : vRnL} (IH : vSnL b base LS xs D cl tys Tb NF l CN so ad ST JL md ws0 uq ih) : vSnL b base LS xs D cl tys Tb NF l CN so ad ST JL md ws0 uq (vexeL FL CL MT KI KL ST JL md uq SP wd ih) := by
  intro mi pc cd ls st σ K h hcd
  unfold vexeL at h
  split at h
  · rename_i q r
    obtain ⟨h1, h⟩ := e_condP h
    have h1 := Nat.eq_of_beq_eq_true h1
    have hq := hcd.1 q List.mem_cons_self
    rw [← h1]
    exact v_DL V q.2.1 q.2.2 (hcd.2 q hq) ih IH mi q.1 r ls st σ K h hq ⟨fun t ht => hcd.1 t (List.mem_cons_of_mem _ ht), hcd.2⟩
  · exact absurd h id
theorem v_runL (V : vValL b base LS xs D cl tys Tb NF l CN so ad ST JL FL CL MT KI KL md ws0 uq SP) {wd : List Nat} {C : List (Nat × List Nat)} {m0 : eM → Bool} : ∀ n, vSnL b base LS xs D cl tys Tb NF l CN so ad ST JL md ws0 uq (vRunL FL CL MT KI KL ST JL md uq SP (fun mi pc ls σ K => VGL b base LS xs D cl tys Tb NF l CN so ad ST JL md ws0 uq mi pc ls [] σ K) wd C m0 n)
  | 0 => fun mi pc cd ls st σ K h _ => absurd h id
  | n + 1 => by
    intro mi pc cd ls st σ K h hcd
    have h : (match (generalizing := false) bif m0 mi then vcf C pc else none with
      | some js => (match (generalizing := false) st with
        | [] => vselL js ls (fun ls => VGL b base LS xs D cl tys Tb NF l CN so ad ST JL md ws0 uq mi pc ls [] σ K)
        | _ => False)
      | none => vexeL FL CL MT KI KL ST JL md uq SP wd (vRunL FL CL MT KI KL ST JL md uq SP (fun mi pc ls σ K => VGL b base LS xs D cl tys Tb NF l CN so ad ST JL md ws0 uq mi pc ls [] σ K) wd C m0 n) mi pc cd ls st σ K) := h
    split at h
    · split at h
      · intro Kg lv stA ws hW hl hs hK
        obtain ⟨t, g1, g2⟩ := vsel_okL hl h
        exact g1 Kg lv stA ws hW g2 hs hK
      · exact absurd h id
    · exact v_exeL V (v_runL V n) mi pc cd ls st σ K h hcd
theorem v_goL (V : vValL b base LS xs D cl tys Tb NF l CN so ad ST JL FL CL MT KI KL md ws0 uq SP) (wd : List Nat) (C : List (Nat × List Nat)) (m0 : eM → Bool) (n : Nat) {mi : eM} {pc : Nat} {ls : List (Nat × vVL)} {σ : vS} {K : vKL} (hlen : ∀ q ∈ mi.2.2.2.2.2.2, elen q.2.1 q.2.2 = true) (h : vGoL FL CL MT KI KL ST JL md uq SP (fun mi pc ls σ K => VGL b base LS xs D cl tys Tb NF l CN so ad ST JL md ws0 uq mi pc ls [] σ K) wd C m0 n mi pc ls σ K) : VGL b base LS xs D cl tys Tb NF l CN so ad ST JL md ws0 uq mi pc ls [] σ K := by
  unfold vGoL at h
  split at h
  · rename_i cd h2
    exact v_exeL V (v_runL V n) mi pc cd ls [] σ K h ⟨ej_ok h2, hlen⟩
  · exact absurd h id
end VJ
