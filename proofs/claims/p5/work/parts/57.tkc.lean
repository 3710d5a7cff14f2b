theorem nar_b {z : Int32} (h : -128 ≤ z.toInt ∧ z.toInt ≤ 127) : vp_nar .byte z = z := by
  show z.toInt8.toInt32 = z
  rw [← Int32.toInt_inj, Int8.toInt_toInt32, Int32.toInt_toInt8]
  exact Int.bmod_eq_of_le (by omega) (by omega)
/-! THE EXACT WALK IS RIGHT: an instruction at a time. -/
section VI
variable {b base LS : Nat} {xs : Nat → Int32} {D : va_G} {cl : List vw_C} {tys : List (ClassId × FieldType)} {Tb : List Cond} {NF : State → Prop} {l : Launch} {CN : Nat → String} {so ad : List Nat} {ST : Nat → Option aS} {JL : List aJ} {md : aMd} {ws0 : va_W} {uq : Nat → Bool}
theorem y_loadL {j len : Nat} {i : Instr} (hi : (i = .iload j ∧ len = 2) ∨ ∃ f : Fin 4, f.val = j ∧ i = .iload_n f ∧ len = 1) : vHsL b base LS xs D cl tys Tb NF l CN so ad ST JL md ws0 uq (yLoadL len j) i len := by
  intro ih IH mi pc cd ls st σ K h hm hcd Kg lv stA ws hW hl hs hK
  unfold yLoadL at h
  split at h
  · rename_i x hx
    obtain ⟨y, g1, z, rfl, e⟩ := hl _ (vl_memL hx)
    exact g_iload hi hm g1 (IH _ _ _ _ _ _ _ h hcd Kg lv _ ws hW hl ⟨⟨z, rfl, e⟩, hs⟩ hK)
  · exact absurd h id
theorem y_loadrL {j len : Nat} {i : Instr} (hi : (i = .aload j ∧ len = 2) ∨ ∃ f : Fin 4, f.val = j ∧ i = .aload_n f ∧ len = 1) : vHsL b base LS xs D cl tys Tb NF l CN so ad ST JL md ws0 uq (yLoadrL len j) i len := by
  intro ih IH mi pc cd ls st σ K h hm hcd Kg lv stA ws hW hl hs hK
  unfold yLoadrL at h
  split at h
  · rename_i r hx
    obtain ⟨y, g1, o, a, g2, g3, rfl⟩ := hl _ (vl_memL hx)
    exact g_aload hi hm g1 (IH _ _ _ _ _ _ _ h hcd Kg lv _ ws hW hl ⟨⟨o, a, g2, g3, rfl⟩, hs⟩ hK)
  · exact absurd h id
theorem y_lloaL {f : Fin 4} : vHsL b base LS xs D cl tys Tb NF l CN so ad ST JL md ws0 uq (yLloaL f.val) (.lload_n f) 1 := by
  intro ih IH mi pc cd ls st σ K h hm hcd Kg lv stA ws hW hl hs hK
  unfold yLloaL at h
  split at h
  · rename_i n hx
    obtain ⟨y, g1, z, rfl, ez⟩ := hl _ (vl_memL hx)
    exact g_lload hm g1 (IH _ _ _ _ _ _ _ h hcd Kg lv _ ws hW hl ⟨⟨z, rfl, ez⟩, hs⟩ hK)
  · exact absurd h id
theorem y_storL {j len : Nat} {i : Instr} (hi : (i = .istore j ∧ len = 2) ∨ ∃ f : Fin 4, f.val = j ∧ i = .istore_n f ∧ len = 1) : vHsL b base LS xs D cl tys Tb NF l CN so ad ST JL md ws0 uq (yStorL len j) i len := by
  intro ih IH mi pc cd ls st σ K h hm hcd Kg lv stA ws hW hl hs hK
  unfold yStorL at h
  split at h
  · rename_i x r
    rw [vlf_eqL] at h
    obtain ⟨y, t, rfl, ⟨z, rfl, e⟩, g2⟩ := vsR_consL hs
    exact g_istore hi hm (IH _ _ _ _ _ _ _ h hcd Kg _ _ ws hW (vlR_stL hl ⟨z, rfl, e⟩) g2 hK)
  · exact absurd h id
theorem y_pushL {n : Int} {len : Nat} {i : Instr} (hg : ∀ {mi : eM} {pc : Nat} {lv : List (Nat × Value)} {st : List Value} {ws : va_W} {ce sl : Nat} {K : gK}, (pc, i, len) ∈ mi.2.2.2.2.2.2 → gG b base LS xs D cl tys Tb NF l CN mi (pc + len) lv (.int (Int32.ofInt n) :: st) ws ce sl K → gG b base LS xs D cl tys Tb NF l CN mi pc lv st ws ce sl K) : vHsL b base LS xs D cl tys Tb NF l CN so ad ST JL md ws0 uq (yPushL len n) i len := by
  intro ih IH mi pc cd ls st σ K h hm hcd Kg lv stA ws hW hl hs hK
  obtain ⟨h1, h⟩ := e_condP h
  exact hg hm (IH _ _ _ _ _ _ _ h hcd Kg lv _ ws hW hl ⟨⟨_, rfl, i_ofInt h1⟩, hs⟩ hK)
theorem y_lconL {n : Fin 2} : vHsL b base LS xs D cl tys Tb NF l CN so ad ST JL md ws0 uq (yLconL n) (.lconst n) 1 := by
  intro ih IH mi pc cd ls st σ K h hm hcd Kg lv stA ws hW hl hs hK
  have e : (Int64.ofNat (n : Nat)).toInt = ((n : Nat) : Int) := by
    match n with
    | 0 => rfl
    | 1 => rfl
  exact x_lconst hm (IH _ _ _ _ _ _ _ h hcd Kg lv _ ws hW hl ⟨⟨_, rfl, e⟩, hs⟩ hK)
theorem y_longL {KL : Nat → Nat → Option Int} (hKL : xJOK Tb CN KL) {idx : Nat} : vHsL b base LS xs D cl tys Tb NF l CN so ad ST JL md ws0 uq (yLongL KL idx) (.ldc2_w idx) 3 := by
  intro ih IH mi pc cd ls st σ K h hm hcd Kg lv stA ws hW hl hs hK
  unfold yLongL at h
  split at h
  · rename_i n hn
    exact x_ldc2 hKL hm hn (fun z ez => IH _ _ _ _ _ _ _ h hcd Kg lv _ ws hW hl ⟨⟨z, rfl, ez⟩, hs⟩ hK)
  · exact absurd h id
theorem y_ldcL {KI : Nat → Nat → Option Nat} (hKI : eKOK Tb CN KI) {idx len : Nat} {i : Instr} (hi : (i = .ldc idx ∧ len = 2) ∨ (i = .ldc_w idx ∧ len = 3)) : vHsL b base LS xs D cl tys Tb NF l CN so ad ST JL md ws0 uq (yLdcL KI len idx) i len := by
  intro ih IH mi pc cd ls st σ K h hm hcd Kg lv stA ws hW hl hs hK
  unfold yLdcL at h
  split at h
  · rename_i n hn
    exact g_ldc hKI hi hm hn (IH _ _ _ _ _ _ _ h hcd Kg lv _ ws hW hl ⟨⟨_, rfl, e_sg n⟩, hs⟩ hK)
  · exact absurd h id
theorem y_incL {j : Nat} {n : Int} : vHsL b base LS xs D cl tys Tb NF l CN so ad ST JL md ws0 uq (yIncL j n) (.iinc j n) 3 := by
  intro ih IH mi pc cd ls st σ K h hm hcd Kg lv stA ws hW hl hs hK
  unfold yIncL at h
  split at h
  · rename_i x hx
    obtain ⟨h1, h2, h⟩ := e_condP h
    rw [vlf_eqL] at h
    obtain ⟨y, g1, z, rfl, e⟩ := hl _ (vl_memL hx)
    have e1 := i_ofInt h1
    have e2 : (z + Int32.ofInt n).toInt = x + n := by rw [i_add (by omega) (by omega)]; omega
    exact g_iinc hm g1 (IH _ _ _ _ _ _ _ h hcd Kg _ _ ws hW (vlR_stL hl ⟨_, rfl, e2⟩) hs hK)
  · exact absurd h id
theorem y_arL {f : Int → Int → Int} {op : Int32 → Int32 → Int32} {i : Instr} (ho : ∀ x y : Int32, -2147483648 ≤ f x.toInt y.toInt ∧ f x.toInt y.toInt ≤ 2147483647 → (op x y).toInt = f x.toInt y.toInt)
    (hg : ∀ {mi : eM} {pc : Nat} {lv : List (Nat × Value)} {st : List Value} {ws : va_W} {ce sl : Nat} {K : gK} {z1 z2 : Int32}, (pc, i, 1) ∈ mi.2.2.2.2.2.2 → gG b base LS xs D cl tys Tb NF l CN mi (pc + 1) lv (.int (op z1 z2) :: st) ws ce sl K → gG b base LS xs D cl tys Tb NF l CN mi pc lv (.int z2 :: .int z1 :: st) ws ce sl K) : vHsL b base LS xs D cl tys Tb NF l CN so ad ST JL md ws0 uq (yArL f) i 1 := by
  intro ih IH mi pc cd ls st σ K h hm hcd Kg lv stA ws hW hl hs hK
  unfold yArL at h
  split at h
  · rename_i y x r
    obtain ⟨yA, t0, rfl, ⟨z2, rfl, e2⟩, g2⟩ := vsR_consL hs
    obtain ⟨xA, t, rfl, ⟨z1, rfl, e1⟩, g4⟩ := vsR_consL g2
    subst e1
    subst e2
    exact hg hm (IH _ _ _ _ _ _ _ h.2 hcd Kg lv _ ws hW hl ⟨⟨_, rfl, ho _ _ h.1⟩, g4⟩ hK)
  · exact absurd h id
theorem y_arwL {wd : List Nat} {f g : Int → Int → Int} {op : Int32 → Int32 → Int32} {i : Instr} (ho : ∀ x y : Int32, -2147483648 ≤ f x.toInt y.toInt ∧ f x.toInt y.toInt ≤ 2147483647 → (op x y).toInt = f x.toInt y.toInt) (ho2 : ∀ x y : Int32, (op x y).toInt = g x.toInt y.toInt)
    (hg : ∀ {mi : eM} {pc : Nat} {lv : List (Nat × Value)} {st : List Value} {ws : va_W} {ce sl : Nat} {K : gK} {z1 z2 : Int32}, (pc, i, 1) ∈ mi.2.2.2.2.2.2 → gG b base LS xs D cl tys Tb NF l CN mi (pc + 1) lv (.int (op z1 z2) :: st) ws ce sl K → gG b base LS xs D cl tys Tb NF l CN mi pc lv (.int z2 :: .int z1 :: st) ws ce sl K) : vHsL b base LS xs D cl tys Tb NF l CN so ad ST JL md ws0 uq (yArwL wd f g) i 1 := by
  intro ih IH mi pc cd ls st σ K h hm hcd
  unfold yArwL at h
  cases hb : vin pc wd with
  | false =>
    rw [hb, cond_false] at h
    exact y_arL ho hg ih IH mi pc cd ls st σ K h hm hcd
  | true =>
    rw [hb, cond_true] at h
    intro Kg lv stA ws hW hl hs hK
    split at h
    · rename_i y x r
      obtain ⟨yA, t0, rfl, ⟨z2, rfl, e2⟩, g2⟩ := vsR_consL hs
      obtain ⟨xA, t, rfl, ⟨z1, rfl, e1⟩, g4⟩ := vsR_consL g2
      have b1 := i_lo (op z1 z2)
      have b2 := i_hi (op z1 z2)
      have b1 : -2147483648 ≤ (op z1 z2).toInt := b1
      have b2 : (op z1 z2).toInt ≤ 2147483647 := b2
      exact hg hm (IH _ _ _ _ _ _ _ (h _ ⟨b1, b2⟩ (by rw [← e1, ← e2]; exact ho2 z1 z2)) hcd Kg lv _ ws hW hl ⟨⟨_, rfl, rfl⟩, g4⟩ hK)
    · exact absurd h id
theorem y_binL {f : Int → Int → Int} {op : Int32 → Int32 → Int32} {i : Instr} (ho : ∀ x y : Int32, (op x y).toInt = f x.toInt y.toInt)
    (hg : ∀ {mi : eM} {pc : Nat} {lv : List (Nat × Value)} {st : List Value} {ws : va_W} {ce sl : Nat} {K : gK} {z1 z2 : Int32}, (pc, i, 1) ∈ mi.2.2.2.2.2.2 → gG b base LS xs D cl tys Tb NF l CN mi (pc + 1) lv (.int (op z1 z2) :: st) ws ce sl K → gG b base LS xs D cl tys Tb NF l CN mi pc lv (.int z2 :: .int z1 :: st) ws ce sl K) : vHsL b base LS xs D cl tys Tb NF l CN so ad ST JL md ws0 uq (yBinL f) i 1 := by
  intro ih IH mi pc cd ls st σ K h hm hcd Kg lv stA ws hW hl hs hK
  unfold yBinL at h
  split at h
  · rename_i y x r
    obtain ⟨yA, t0, rfl, ⟨z2, rfl, e2⟩, g2⟩ := vsR_consL hs
    obtain ⟨xA, t, rfl, ⟨z1, rfl, e1⟩, g4⟩ := vsR_consL g2
    subst e1
    subst e2
    exact hg hm (IH _ _ _ _ _ _ _ h hcd Kg lv _ ws hW hl ⟨⟨_, rfl, ho _ _⟩, g4⟩ hK)
  · exact absurd h id
theorem y_lcmpL : vHsL b base LS xs D cl tys Tb NF l CN so ad ST JL md ws0 uq yLcmpL .lcmp 1 := by
  intro ih IH mi pc cd ls st σ K h hm hcd Kg lv stA ws hW hl hs hK
  unfold yLcmpL at h
  split at h
  · obtain ⟨yA, t0, rfl, ⟨z2, rfl, e2⟩, g2⟩ := vsR_consL hs
    obtain ⟨xA, t, rfl, ⟨z1, rfl, e1⟩, g4⟩ := vsR_consL g2
    obtain ⟨c1, c2, c3⟩ := l_cmp (x := z1) (y := z2)
    rw [e1, e2] at c1 c2 c3
    refine x_lcmp hm ?_
    rcases Int.lt_trichotomy z1.toInt z2.toInt with q | q | q
    · rw [e1, e2] at q
      rw [c1 q]
      exact IH _ _ _ _ _ _ _ (h.1 q) hcd Kg lv _ ws hW hl ⟨⟨_, rfl, rfl⟩, g4⟩ hK
    · rw [e1, e2] at q
      rw [c2 q]
      exact IH _ _ _ _ _ _ _ (h.2.1 q) hcd Kg lv _ ws hW hl ⟨⟨_, rfl, rfl⟩, g4⟩ hK
    · rw [e1, e2] at q
      rw [c3 q]
      exact IH _ _ _ _ _ _ _ (h.2.2 q) hcd Kg lv _ ws hW hl ⟨⟨_, rfl, rfl⟩, g4⟩ hK
  · exact absurd h id
theorem y_i2lL : vHsL b base LS xs D cl tys Tb NF l CN so ad ST JL md ws0 uq yI2lL .i2l 1 := by
  intro ih IH mi pc cd ls st σ K h hm hcd Kg lv stA ws hW hl hs hK
  unfold yI2lL at h
  split at h
  · obtain ⟨yA, t0, rfl, ⟨z2, rfl, e2⟩, g2⟩ := vsR_consL hs
    exact x_i2l hm (IH _ _ _ _ _ _ _ h hcd Kg lv _ ws hW hl ⟨⟨_, rfl, by rw [Int32.toInt_toInt64]; exact e2⟩, g2⟩ hK)
  · exact absurd h id
theorem y_lbinL : vHsL b base LS xs D cl tys Tb NF l CN so ad ST JL md ws0 uq yLbinL .lor 1 := by
  intro ih IH mi pc cd ls st σ K h hm hcd Kg lv stA ws hW hl hs hK
  unfold yLbinL at h
  split at h
  · obtain ⟨yA, t0, rfl, ⟨z2, rfl, e2⟩, g2⟩ := vsR_consL hs
    obtain ⟨xA, t, rfl, ⟨z1, rfl, e1⟩, g4⟩ := vsR_consL g2
    exact x_lor hm (IH _ _ _ _ _ _ _ h hcd Kg lv _ ws hW hl ⟨⟨_, rfl, by unfold vlor; rw [← e1, ← e2, Int64.ofInt_toInt, Int64.ofInt_toInt]⟩, g4⟩ hK)
  · exact absurd h id
theorem y_larL {i : Instr} {f : Int → Int → Int} {op : Int64 → Int64 → Int64} (hf : ∀ x y : Int64, (-9223372036854775808 ≤ f x.toInt y.toInt ∧ f x.toInt y.toInt ≤ 9223372036854775807) → (op x y).toInt = f x.toInt y.toInt) (hg : ∀ {mi : eM} {pc : Nat} {lv : List (Nat × Value)} {st : List Value} {ws : va_W} {K : gK} {z1 z2 : Int64}, (pc, i, 1) ∈ mi.2.2.2.2.2.2 → gG b base LS xs D cl tys Tb NF l CN mi (pc + 1) lv (.long (op z1 z2) :: st) ws 0 0 K → gG b base LS xs D cl tys Tb NF l CN mi pc lv (.long z2 :: .long z1 :: st) ws 0 0 K) : vHsL b base LS xs D cl tys Tb NF l CN so ad ST JL md ws0 uq (yLarL f) i 1 := by
  intro ih IH mi pc cd ls st σ K h hm hcd Kg lv stA ws hW hl hs hK
  unfold yLarL at h
  split at h
  · obtain ⟨yA, t0, rfl, ⟨z2, rfl, e2⟩, g2⟩ := vsR_consL hs
    obtain ⟨xA, t, rfl, ⟨z1, rfl, e1⟩, g4⟩ := vsR_consL g2
    subst e1 e2
    exact hg hm (IH _ _ _ _ _ _ _ h.2 hcd Kg lv _ ws hW hl ⟨⟨_, rfl, hf _ _ h.1⟩, g4⟩ hK)
  · exact absurd h id
theorem y_lawL {wd : List Nat} {i : Instr} {f : Int → Int → Int} {op : Int64 → Int64 → Int64} (hf : ∀ x y : Int64, (-9223372036854775808 ≤ f x.toInt y.toInt ∧ f x.toInt y.toInt ≤ 9223372036854775807) → (op x y).toInt = f x.toInt y.toInt) (hg : ∀ {mi : eM} {pc : Nat} {lv : List (Nat × Value)} {st : List Value} {ws : va_W} {K : gK} {z1 z2 : Int64}, (pc, i, 1) ∈ mi.2.2.2.2.2.2 → gG b base LS xs D cl tys Tb NF l CN mi (pc + 1) lv (.long (op z1 z2) :: st) ws 0 0 K → gG b base LS xs D cl tys Tb NF l CN mi pc lv (.long z2 :: .long z1 :: st) ws 0 0 K) : vHsL b base LS xs D cl tys Tb NF l CN so ad ST JL md ws0 uq (yLawL wd f) i 1 := by
  intro ih IH mi pc cd ls st σ K h hm hcd Kg lv stA ws hW hl hs hK
  unfold yLawL at h
  cases hw : vin pc wd with
  | false =>
    rw [hw, cond_false] at h
    exact y_larL hf hg ih IH mi pc cd ls st σ K h hm hcd Kg lv stA ws hW hl hs hK
  | true =>
    rw [hw, cond_true] at h
    split at h
    · obtain ⟨yA, t0, rfl, ⟨z2, rfl, e2⟩, g2⟩ := vsR_consL hs
      obtain ⟨xA, t, rfl, ⟨z1, rfl, e1⟩, g4⟩ := vsR_consL g2
      exact hg hm (IH _ _ _ _ _ _ _ (h (op z1 z2).toInt ⟨Int64.le_toInt _, Int64.toInt_le _⟩) hcd Kg lv _ ws hW hl ⟨⟨_, rfl, rfl⟩, g4⟩ hK)
    · exact absurd h id
theorem y_alenL : vHsL b base LS xs D cl tys Tb NF l CN so ad ST JL md ws0 uq (yAlenL ST) .arraylength 1 := by
  intro ih IH mi pc cd ls st σ K h hm hcd Kg lv stA ws hW hl hs hK
  unfold yAlenL at h
  split at h
  · obtain ⟨xA, t0, rfl, g1, g2⟩ := vsR_consL hs
    split at h
    · rename_i ob hob
      obtain ⟨h1, h⟩ := e_condP h
      rw [Bool.and_eq_true, Bool.or_eq_true] at h1
      have h2 := Nat.le_of_ble_eq_true h1.1
      have ev : (Int32.ofNat ob.2.1).toInt = (ob.2.1 : Int) := Int32.toInt_ofNat_of_lt (by omega)
      obtain ⟨o, a, e, rfl, w1, w2, w3⟩ := vr_atL hW.1 g1
      unfold eOk at w3
      rw [hob] at w3
      rcases w3 with ⟨q3, cA, f, t3, rfl, q1, q2⟩ | ⟨q3, cA, f, t3, rfl, q1⟩ | ⟨q3, -⟩
      · exact g_alen hm w1 q1 (IH _ _ _ _ _ _ _ h hcd Kg lv _ ws hW hl ⟨⟨_, rfl, ev⟩, g2⟩ hK)
      · exact g_alen hm w1 q1 (IH _ _ _ _ _ _ _ h hcd Kg lv _ ws hW hl ⟨⟨_, rfl, ev⟩, g2⟩ hK)
      · exfalso
        rcases h1.2 with h3 | h3
        · have : ob.1 < 3 := Nat.le_of_ble_eq_true h3
          omega
        · have := Nat.eq_of_beq_eq_true h3
          omega
    · exact absurd h id
  · exact absurd h id
theorem vlR_st2L {ls : List (Nat × vVL)} {lv : List (Nat × Value)} (h : vlRL so ad ls lv) {j : Nat} {v : vVL} {x : Value} (hv : vvRL so ad v x) : vlRL so ad ((j, v) :: ls.filter (vlp2L j)) (gSt2 lv j x) := by
  intro q hq
  rcases List.mem_cons.mp hq with rfl | hq
  · exact ⟨x, List.mem_cons_self, hv⟩
  · obtain ⟨hq, hp⟩ := List.mem_filter.mp hq
    obtain ⟨y, g1, g2⟩ := h q hq
    refine ⟨y, List.mem_cons_of_mem _ (List.mem_filter.mpr ⟨g1, ?_⟩), g2⟩
    have hc := vvR_catL g2
    unfold vlp2L vlpL at hp
    cases h0 : Nat.beq q.1 (j + 1) with
    | true => rw [h0] at hp; cases hp
    | false =>
      rw [h0, cond_false] at hp
      have n0 : ¬ q.1 = j + 1 := nbeq h0
      cases h1 : Nat.beq q.1 j with
      | true => rw [h1] at hp; cases hp
      | false =>
        rw [h1, cond_false] at hp
        have n1 : ¬ q.1 = j := nbeq h1
        cases h2 : Nat.beq (q.1 + 1) j with
        | true =>
          rw [h2, cond_true] at hp
          have := Nat.eq_of_beq_eq_true hp
          simp [n0, n1, hc, this]
        | false =>
          have n2 : ¬ q.1 + 1 = j := nbeq h2
          simp [n0, n1, n2]
theorem y_lstoL {f : Fin 4} : vHsL b base LS xs D cl tys Tb NF l CN so ad ST JL md ws0 uq (yLstoL f.val) (.lstore_n f) 1 := by
  intro ih IH mi pc cd ls st σ K h hm hcd Kg lv stA ws hW hl hs hK
  unfold yLstoL at h
  split at h
  · rename_i x r
    rw [vlf_eqL] at h
    obtain ⟨y, t, rfl, ⟨z, rfl, e⟩, g2⟩ := vsR_consL hs
    exact g_lstore hm (IH _ _ _ _ _ _ _ h hcd Kg _ _ ws hW (vlR_st2L hl ⟨z, rfl, e⟩) g2 hK)
  · exact absurd h id
theorem y_strrL {j len : Nat} {i : Instr} (hi : (i = .astore j ∧ len = 2) ∨ ∃ f : Fin 4, f.val = j ∧ i = .astore_n f ∧ len = 1) : vHsL b base LS xs D cl tys Tb NF l CN so ad ST JL md ws0 uq (yStrrL len j) i len := by
  intro ih IH mi pc cd ls st σ K h hm hcd Kg lv stA ws hW hl hs hK
  unfold yStrrL at h
  split at h
  · rename_i x r
    rw [vlf_eqL] at h
    obtain ⟨y, t, rfl, ⟨o, a, e1, e2, rfl⟩, g2⟩ := vsR_consL hs
    exact g_astore hi hm (IH _ _ _ _ _ _ _ h hcd Kg _ _ ws hW (vlR_stL hl ⟨o, a, e1, e2, rfl⟩) g2 hK)
  · exact absurd h id
theorem y_i2bL : vHsL b base LS xs D cl tys Tb NF l CN so ad ST JL md ws0 uq yI2bL .i2b 1 := by
  intro ih IH mi pc cd ls st σ K h hm hcd Kg lv stA ws hW hl hs hK
  unfold yI2bL at h
  split at h
  · obtain ⟨yA, t0, rfl, ⟨z2, rfl, e2⟩, g2⟩ := vsR_consL hs
    exact g_i2b hm (IH _ _ _ _ _ _ _ h hcd Kg lv _ ws hW hl ⟨⟨_, rfl, by rw [← e2, Int32.ofInt_toInt]⟩, g2⟩ hK)
  · exact absurd h id
theorem y_lshlL : vHsL b base LS xs D cl tys Tb NF l CN so ad ST JL md ws0 uq yLshlL .lshl 1 := by
  intro ih IH mi pc cd ls st σ K h hm hcd Kg lv stA ws hW hl hs hK
  unfold yLshlL at h
  split at h
  · obtain ⟨yA, t0, rfl, ⟨z2, rfl, e2⟩, g2⟩ := vsR_consL hs
    obtain ⟨xA, t, rfl, ⟨z1, rfl, e1⟩, g4⟩ := vsR_consL g2
    exact x_lshl hm (IH _ _ _ _ _ _ _ h hcd Kg lv _ ws hW hl ⟨⟨_, rfl, by unfold vlsh; rw [← e1, ← e2, Int64.ofInt_toInt, Int32.ofInt_toInt]⟩, g4⟩ hK)
  · exact absurd h id
theorem y_dupL : vHsL b base LS xs D cl tys Tb NF l CN so ad ST JL md ws0 uq yDupL .dup 1 := by
  intro ih IH mi pc cd ls st σ K h hm hcd Kg lv stA ws hW hl hs hK
  unfold yDupL at h
  split at h
  · rename_i x r
    obtain ⟨h1, h⟩ := e_condP h
    obtain ⟨xA, t, rfl, g1, g2⟩ := vsR_consL hs
    exact g_dup hm (by rw [vvR_catL g1]; exact Nat.eq_of_beq_eq_true h1) (IH _ _ _ _ _ _ _ h hcd Kg lv _ ws hW hl ⟨g1, g1, g2⟩ hK)
  · exact absurd h id
theorem y_popL : vHsL b base LS xs D cl tys Tb NF l CN so ad ST JL md ws0 uq yPopL .pop 1 := by
  intro ih IH mi pc cd ls st σ K h hm hcd Kg lv stA ws hW hl hs hK
  unfold yPopL at h
  split at h
  · rename_i x r
    obtain ⟨h1, h⟩ := e_condP h
    obtain ⟨xA, t, rfl, g1, g2⟩ := vsR_consL hs
    exact g_pop hm (by rw [vvR_catL g1]; exact Nat.eq_of_beq_eq_true h1) (IH _ _ _ _ _ _ _ h hcd Kg lv _ ws hW hl g2 hK)
  · exact absurd h id
theorem y_dup2L : vHsL b base LS xs D cl tys Tb NF l CN so ad ST JL md ws0 uq yDup2L .dup2 1 := by
  intro ih IH mi pc cd ls st σ K h hm hcd Kg lv stA ws hW hl hs hK
  unfold yDup2L at h
  split at h
  · rename_i y x r
    obtain ⟨h1, h⟩ := e_condP h
    rw [Bool.and_eq_true] at h1
    obtain ⟨yA, t0, rfl, g1, g2⟩ := vsR_consL hs
    obtain ⟨xA, t, rfl, g3, g4⟩ := vsR_consL g2
    exact g_dup2 hm (by rw [vvR_catL g1]; exact Nat.eq_of_beq_eq_true h1.1) (by rw [vvR_catL g3]; exact Nat.eq_of_beq_eq_true h1.2) (IH _ _ _ _ _ _ _ h hcd Kg lv _ ws hW hl ⟨g1, g3, g1, g3, g4⟩ hK)
  · exact absurd h id
theorem y_dupxL : vHsL b base LS xs D cl tys Tb NF l CN so ad ST JL md ws0 uq yDupxL .dup_x1 1 := by
  intro ih IH mi pc cd ls st σ K h hm hcd Kg lv stA ws hW hl hs hK
  unfold yDupxL at h
  split at h
  · rename_i y x r
    obtain ⟨h1, h⟩ := e_condP h
    rw [Bool.and_eq_true] at h1
    obtain ⟨yA, t0, rfl, g1, g2⟩ := vsR_consL hs
    obtain ⟨xA, t, rfl, g3, g4⟩ := vsR_consL g2
    exact g_dupx1 hm (by rw [vvR_catL g1]; exact Nat.eq_of_beq_eq_true h1.1) (by rw [vvR_catL g3]; exact Nat.eq_of_beq_eq_true h1.2) (IH _ _ _ _ _ _ _ h hcd Kg lv _ ws hW hl ⟨g1, g3, g1, g4⟩ hK)
  · exact absurd h id
theorem v_jmpL {ih : vRnL} (IH : vSnL b base LS xs D cl tys Tb NF l CN so ad ST JL md ws0 uq ih) {mi : eM} {pc : Nat} {cd : List eI} {off : Int} {ls : List (Nat × vVL)} {r : List vVL} {σ : vS} {K : vKL} (hcd : vCd mi cd) (h : yJmpL ih mi pc off ls r σ K) : ∃ t : Nat, (pc : Int) + off = (t : Int) ∧ VGL b base LS xs D cl tys Tb NF l CN so ad ST JL md ws0 uq mi t ls r σ K := by
  unfold yJmpL at h
  split at h
  · rename_i t ht
    split at h
    · rename_i cd2 h2
      exact ⟨t, ht, IH _ _ _ _ _ _ _ h ⟨ej_ok h2, hcd.2⟩⟩
    · exact absurd h id
  · exact absurd h id
theorem y_gotoL {off : Int} : vHsL b base LS xs D cl tys Tb NF l CN so ad ST JL md ws0 uq (yGotoL off) (.goto off) 3 := by
  intro ih IH mi pc cd ls st σ K h hm hcd Kg lv stA ws hW hl hs hK
  obtain ⟨t, e, g⟩ := v_jmpL IH hcd h
  exact g_goto hm e (g Kg lv stA ws hW hl hs hK)
theorem y_icmpL {c : ClassFile.Cond} {off : Int} : vHsL b base LS xs D cl tys Tb NF l CN so ad ST JL md ws0 uq (yIcmpL c off) (.if_icmp c off) 3 := by
  intro ih IH mi pc cd ls st σ K h hm hcd Kg lv stA ws hW hl hs hK
  unfold yIcmpL at h
  split at h
  · rename_i y x r
    obtain ⟨yA, t0, rfl, ⟨z2, rfl, e2⟩, g2⟩ := vsR_consL hs
    obtain ⟨xA, t, rfl, ⟨z1, rfl, e1⟩, g4⟩ := vsR_consL g2
    subst e1
    subst e2
    obtain ⟨k1, k2⟩ := yCmp_ok h
    refine g_icmp2 hm (fun q => ?_) (fun q => IH _ _ _ _ _ _ _ (k2 q) hcd Kg lv _ ws hW hl g4 hK)
    obtain ⟨t, e, g⟩ := v_jmpL IH hcd (k1 q)
    exact ⟨t, e, g Kg lv _ ws hW hl g4 hK⟩
  · exact absurd h id
theorem y_ifL {c : ClassFile.Cond} {off : Int} : vHsL b base LS xs D cl tys Tb NF l CN so ad ST JL md ws0 uq (yIfL c off) (.ifCond c off) 3 := by
  intro ih IH mi pc cd ls st σ K h hm hcd Kg lv stA ws hW hl hs hK
  unfold yIfL at h
  split at h
  · rename_i x r
    obtain ⟨xA, t, rfl, ⟨z1, rfl, e1⟩, g4⟩ := vsR_consL hs
    subst e1
    have h : yCmp c z1.toInt (0 : Int32).toInt (yJmpL ih mi pc off ls r σ K) (ih mi (pc + 3) cd ls r σ K) := h
    obtain ⟨k1, k2⟩ := yCmp_ok h
    refine g_ifc2 hm (fun q => ?_) (fun q => IH _ _ _ _ _ _ _ (k2 q) hcd Kg lv _ ws hW hl g4 hK)
    obtain ⟨t, e, g⟩ := v_jmpL IH hcd (k1 q)
    exact ⟨t, e, g Kg lv _ ws hW hl g4 hK⟩
  · exact absurd h id
theorem y_getL {FL : eFL} (hF : eFOK cl Tb CN FL) {idx : Nat} : vHsL b base LS xs D cl tys Tb NF l CN so ad ST JL md ws0 uq (yGetL FL ST uq idx) (.getfield idx) 3 := by
  intro ih IH mi pc cd ls st σ K h hm hcd Kg lv stA ws hW hl hs hK
  unfold yGetL at h
  split at h
  · rename_i t rest
    obtain ⟨xA, t0, rfl, g1, g2⟩ := vsR_consL hs
    split at h
    · rename_i q hq
      split at h
      · rename_i ob hob
        obtain ⟨h1, h⟩ := e_condP h
        rw [Bool.and_eq_true] at h1
        have hc := Nat.eq_of_beq_eq_true h1.1
        obtain ⟨o, a, e, rfl, w1, w2, w3⟩ := vr_atL hW.1 g1
        unfold eOk at w3
        rw [hob] at w3
        obtain ⟨fs, rfl, k1, k2⟩ := w3
        rw [hc] at w1
        have fin : ∀ f, ob.2[q.2.1]? = some f → ∃ x, fs[q.2.1]? = some x ∧ vOk so ad f x := fun f hf => by
          have hlt : q.2.1 < fs.length := by rw [k1]; exact (List.getElem?_eq_some_iff.mp hf).1
          have hx := List.getElem?_eq_getElem hlt
          exact ⟨_, hx, k2 _ _ _ hf hx⟩
        rw [eg_eq] at h
        split at h
        · rename_i w hf
          obtain ⟨x, hx, z, rfl, -⟩ := fin _ hf
          have hgv : gcv ws o q.2.1 = some (.int z) := by rw [gcv_at w1]; exact hx
          exact g_get hF hm hq w1 hx (IH _ _ _ _ _ _ _ h hcd Kg lv _ ws hW hl ⟨⟨z, rfl, hW.2.2.2.1 o t _ z w2 h1.2 hgv⟩, g2⟩ hK)
        · rename_i t2 hf
          obtain ⟨x, hx, o2, a2, y1, y2, rfl⟩ := fin _ hf
          exact g_get hF hm hq w1 hx (IH _ _ _ _ _ _ _ h hcd Kg lv _ ws hW hl ⟨⟨o2, a2, y1, y2, rfl⟩, g2⟩ hK)
        · rename_i u hf
          obtain ⟨x, hx, z, rfl⟩ := fin _ hf
          have hgv : gcv ws o q.2.1 = some (.long z) := by rw [gcv_at w1]; exact hx
          exact g_get hF hm hq w1 hx (IH _ _ _ _ _ _ _ h hcd Kg lv _ ws hW hl ⟨⟨z, rfl, hW.2.2.2.2 o t _ z w2 h1.2 hgv⟩, g2⟩ hK)
        · exact absurd h id
      · exact absurd h id
    · exact absurd h id
  · exact absurd h id
theorem y_putL {FL : eFL} (hF : eFOK cl Tb CN FL) (hU : ∀ t, uq t = true → ∀ o o2 : Nat, so[o]? = some t → so[o2]? = some t → o = o2) {idx : Nat} : vHsL b base LS xs D cl tys Tb NF l CN so ad ST JL md ws0 uq (yPutL FL ST JL md uq idx) (.putfield idx) 3 := by
  intro ih IH mi pc cd ls st σ K h hm hcd Kg lv stA ws hW hl hs hK
  unfold yPutL at h
  split at h
  · rename_i v t rest
    obtain ⟨vA, t1, rfl, g0, g1⟩ := vsR_consL hs
    obtain ⟨xA, t0, rfl, g1, g2⟩ := vsR_consL g1
    split at h
    · rename_i q hq
      split at h
      · rename_i ob hob
        obtain ⟨h1, h⟩ := e_condP h
        simp only [Bool.and_eq_true] at h1
        obtain ⟨h1, hu, hj, hn, hmd⟩ := h1
        have hc := Nat.eq_of_beq_eq_true h1
        have hn : q.2.2 < 10 := Nat.le_of_ble_eq_true hn
        obtain ⟨m1, m2, m3, m4, m5⟩ := amdk_ok hmd
        have m4 : (m1.2.1 : Int) ≤ (q.2.1 : Int) := m4
        have m5 : (q.2.1 : Int) + 1 ≤ (m1.2.2 : Int) := m5
        obtain ⟨o, a, e, rfl, w1, w2, w3⟩ := vr_atL hW.1 g1
        unfold eOk at w3
        rw [hob] at w3
        obtain ⟨fs, rfl, k1, k2⟩ := w3
        have hE : ∀ f, ob.2[q.2.1]? = some f → vOk so ad f vA → eOk so ad tys ST t (.inr (ob.1, fs.set q.2.1 vA)) := fun f hf p1 => by
          have hlt : q.2.1 < fs.length := by rw [k1]; exact (List.getElem?_eq_some_iff.mp hf).1
          unfold eOk
          rw [hob]
          refine ⟨_, rfl, by rw [List.length_set]; exact k1, fun i f2 x hf2 hx => ?_⟩
          by_cases hi : i = q.2.1
          · subst hi
            rw [List.getElem?_set_self hlt] at hx
            rw [hf] at hf2
            cases hx; cases hf2
            exact p1
          · rw [List.getElem?_set_ne (fun q => hi q.symm)] at hx
            exact k2 i f2 x hf2 hx
        rw [eg_eq] at h
        split at h
        · rename_i w hf
          have hlt : q.2.1 < fs.length := by rw [k1]; exact (List.getElem?_eq_some_iff.mp hf).1
          split at h
          · rename_i x _
            obtain ⟨zv, rfl, ev⟩ := g0
            have hE := hE _ hf ⟨zv, rfl, by omega, by omega⟩
            have hW2 := v_wrL hU hW w1 w2 hE (fun i hi => gcl_fld hi) (vjf_ok hj) ⟨m1, m2, m3, m4, by omega⟩ (σ2 := vup σ t (q.2.1 : Int) x) vup_ne (fun z _ hz => by
              have hz : (fs.set q.2.1 (.int zv))[q.2.1]? = some (.int z) := hz
              rw [List.getElem?_set_self hlt] at hz
              have hz := Option.some.inj hz
              have hz : zv = z := by injection hz
              rw [← hz, vup_eq, ev]) (fun z _ hz => by
              have hz : (fs.set q.2.1 (.int zv))[q.2.1]? = some (.long z) := hz
              rw [List.getElem?_set_self hlt] at hz
              cases hz)
            rw [hc] at w1 hW2
            obtain ⟨hb, h⟩ := h
            cases h0 : Nat.beq (q.2.2 % 10) 0 with
            | true =>
              rw [h0, cond_true] at h
              exact g_put hF hm hq hn w1 hlt (Or.inl ⟨Nat.eq_of_beq_eq_true h0, zv, rfl⟩) (IH _ _ _ _ _ _ _ h hcd Kg lv _ _ hW2 hl g2 hK)
            | false =>
              rw [h0, cond_false] at h
              obtain ⟨h3, h4, h⟩ := e_condP h
              have hz : zv.toInt = 0 ∨ zv.toInt = 1 := by omega
              refine g_put hF hm hq hn w1 hlt (Or.inr (Or.inl ⟨Nat.eq_of_beq_eq_true h3, ?_⟩)) (IH _ _ _ _ _ _ _ h hcd Kg lv _ _ hW2 hl g2 hK)
              rcases hz with hz | hz
              · exact Or.inl (by rw [show zv = 0 from Int32.toInt_inj.mp hz])
              · exact Or.inr (by rw [show zv = 1 from Int32.toInt_inj.mp hz])
          · exact absurd h id
        · rename_i u hf
          have hlt : q.2.1 < fs.length := by rw [k1]; exact (List.getElem?_eq_some_iff.mp hf).1
          split at h
          · rename_i u2 _
            obtain ⟨zv, rfl, ev⟩ := g0
            obtain ⟨h3, h⟩ := e_condP h
            have hE := hE _ hf ⟨zv, rfl⟩
            have hW2 := v_wrL hU hW w1 w2 hE (fun i hi => gcl_fld hi) (vjf_ok hj) ⟨m1, m2, m3, m4, by omega⟩ (σ2 := vup σ t (q.2.1 : Int) u2) vup_ne (fun z _ hz => by
              have hz : (fs.set q.2.1 (.long zv))[q.2.1]? = some (.int z) := hz
              rw [List.getElem?_set_self hlt] at hz
              cases hz) (fun z _ hz => by
              have hz : (fs.set q.2.1 (.long zv))[q.2.1]? = some (.long z) := hz
              rw [List.getElem?_set_self hlt] at hz
              have hz := Option.some.inj hz
              have hz : zv = z := by injection hz
              rw [← hz, vup_eq, ev])
            rw [hc] at w1 hW2
            exact g_put hF hm hq hn w1 hlt (Or.inr (Or.inr ⟨Nat.eq_of_beq_eq_true h3, zv, rfl⟩)) (IH _ _ _ _ _ _ _ h hcd Kg lv _ _ hW2 hl g2 hK)
          · exact absurd h id
        · exact absurd h id
      · exact absurd h id
    · exact absurd h id
  · exact absurd h id
end VI
