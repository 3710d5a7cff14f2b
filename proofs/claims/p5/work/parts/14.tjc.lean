/-! THE EXACT WALK IS RIGHT: an instruction at a time. -/
section VI
variable {b base LS : Nat} {xs : Nat → Int32} {D : va_G} {cl : List vw_C} {tys : List (ClassId × FieldType)} {Tb : List Cond} {NF : State → Prop} {l : Launch} {CN : Nat → String} {so ad : List Nat} {ST : Nat → Option aS} {JL : List aJ} {md : aMd} {ws0 : va_W} {uq : Nat → Bool}
theorem y_load {j len : Nat} {i : Instr} (hi : (i = .iload j ∧ len = 2) ∨ ∃ f : Fin 4, f.val = j ∧ i = .iload_n f ∧ len = 1) : vHs b base LS xs D cl tys Tb NF l CN so ad ST JL md ws0 uq (yLoad len j) i len := by
  intro ih IH mi pc cd ls st σ K h hm hcd Kg lv stA ws hW hl hs hK
  unfold yLoad at h
  split at h
  · rename_i x hx
    obtain ⟨y, g1, z, rfl, e⟩ := hl _ (vl_mem hx)
    exact g_iload hi hm g1 (IH _ _ _ _ _ _ _ h hcd Kg lv _ ws hW hl ⟨⟨z, rfl, e⟩, hs⟩ hK)
  · exact absurd h id
theorem y_loadr {j len : Nat} {i : Instr} (hi : (i = .aload j ∧ len = 2) ∨ ∃ f : Fin 4, f.val = j ∧ i = .aload_n f ∧ len = 1) : vHs b base LS xs D cl tys Tb NF l CN so ad ST JL md ws0 uq (yLoadr len j) i len := by
  intro ih IH mi pc cd ls st σ K h hm hcd Kg lv stA ws hW hl hs hK
  unfold yLoadr at h
  split at h
  · rename_i r hx
    obtain ⟨y, g1, o, a, g2, g3, rfl⟩ := hl _ (vl_mem hx)
    exact g_aload hi hm g1 (IH _ _ _ _ _ _ _ h hcd Kg lv _ ws hW hl ⟨⟨o, a, g2, g3, rfl⟩, hs⟩ hK)
  · exact absurd h id
theorem y_lloa {f : Fin 4} : vHs b base LS xs D cl tys Tb NF l CN so ad ST JL md ws0 uq (yLloa f.val) (.lload_n f) 1 := by
  intro ih IH mi pc cd ls st σ K h hm hcd Kg lv stA ws hW hl hs hK
  unfold yLloa at h
  split at h
  · rename_i n hx
    obtain ⟨y, g1, z, rfl⟩ := hl _ (vl_mem hx)
    exact g_lload hm g1 (IH _ _ _ _ _ _ _ h hcd Kg lv _ ws hW hl ⟨⟨z, rfl⟩, hs⟩ hK)
  · exact absurd h id
theorem y_stor {j len : Nat} {i : Instr} (hi : (i = .istore j ∧ len = 2) ∨ ∃ f : Fin 4, f.val = j ∧ i = .istore_n f ∧ len = 1) : vHs b base LS xs D cl tys Tb NF l CN so ad ST JL md ws0 uq (yStor len j) i len := by
  intro ih IH mi pc cd ls st σ K h hm hcd Kg lv stA ws hW hl hs hK
  unfold yStor at h
  split at h
  · rename_i x r
    rw [vlf_eq] at h
    obtain ⟨y, t, rfl, ⟨z, rfl, e⟩, g2⟩ := vsR_cons hs
    exact g_istore hi hm (IH _ _ _ _ _ _ _ h hcd Kg _ _ ws hW (vlR_st hl ⟨z, rfl, e⟩) g2 hK)
  · exact absurd h id
theorem y_push {n : Int} {len : Nat} {i : Instr} (hg : ∀ {mi : eM} {pc : Nat} {lv : List (Nat × Value)} {st : List Value} {ws : va_W} {ce sl : Nat} {K : gK}, (pc, i, len) ∈ mi.2.2.2.2.2.2 → gG b base LS xs D cl tys Tb NF l CN mi (pc + len) lv (.int (Int32.ofInt n) :: st) ws ce sl K → gG b base LS xs D cl tys Tb NF l CN mi pc lv st ws ce sl K) : vHs b base LS xs D cl tys Tb NF l CN so ad ST JL md ws0 uq (yPush len n) i len := by
  intro ih IH mi pc cd ls st σ K h hm hcd Kg lv stA ws hW hl hs hK
  obtain ⟨h1, h⟩ := e_condP h
  exact hg hm (IH _ _ _ _ _ _ _ h hcd Kg lv _ ws hW hl ⟨⟨_, rfl, i_ofInt h1⟩, hs⟩ hK)
theorem y_lcon {n : Fin 2} : vHs b base LS xs D cl tys Tb NF l CN so ad ST JL md ws0 uq yLcon (.lconst n) 1 := by
  intro ih IH mi pc cd ls st σ K h hm hcd Kg lv stA ws hW hl hs hK
  exact g_lconst hm (fun z => IH _ _ _ _ _ _ _ h hcd Kg lv _ ws hW hl ⟨⟨z, rfl⟩, hs⟩ hK)
theorem y_long {KL : Nat → Nat → Option Nat} (hKL : eJOK Tb CN KL) {idx : Nat} : vHs b base LS xs D cl tys Tb NF l CN so ad ST JL md ws0 uq (yLong KL idx) (.ldc2_w idx) 3 := by
  intro ih IH mi pc cd ls st σ K h hm hcd Kg lv stA ws hW hl hs hK
  unfold yLong at h
  split at h
  · rename_i n hn
    exact g_ldc2 hKL hm hn (fun z => IH _ _ _ _ _ _ _ h hcd Kg lv _ ws hW hl ⟨⟨z, rfl⟩, hs⟩ hK)
  · exact absurd h id
theorem y_ldc {KI : Nat → Nat → Option Nat} (hKI : eKOK Tb CN KI) {idx len : Nat} {i : Instr} (hi : (i = .ldc idx ∧ len = 2) ∨ (i = .ldc_w idx ∧ len = 3)) : vHs b base LS xs D cl tys Tb NF l CN so ad ST JL md ws0 uq (yLdc KI len idx) i len := by
  intro ih IH mi pc cd ls st σ K h hm hcd Kg lv stA ws hW hl hs hK
  unfold yLdc at h
  split at h
  · rename_i n hn
    exact g_ldc hKI hi hm hn (IH _ _ _ _ _ _ _ h hcd Kg lv _ ws hW hl ⟨⟨_, rfl, e_sg n⟩, hs⟩ hK)
  · exact absurd h id
theorem y_inc {j : Nat} {n : Int} : vHs b base LS xs D cl tys Tb NF l CN so ad ST JL md ws0 uq (yInc j n) (.iinc j n) 3 := by
  intro ih IH mi pc cd ls st σ K h hm hcd Kg lv stA ws hW hl hs hK
  unfold yInc at h
  split at h
  · rename_i x hx
    obtain ⟨h1, h2, h⟩ := e_condP h
    rw [vlf_eq] at h
    obtain ⟨y, g1, z, rfl, e⟩ := hl _ (vl_mem hx)
    have e1 := i_ofInt h1
    have e2 : (z + Int32.ofInt n).toInt = x + n := by rw [i_add (by omega) (by omega)]; omega
    exact g_iinc hm g1 (IH _ _ _ _ _ _ _ h hcd Kg _ _ ws hW (vlR_st hl ⟨_, rfl, e2⟩) hs hK)
  · exact absurd h id
theorem y_ar {f : Int → Int → Int} {op : Int32 → Int32 → Int32} {i : Instr} (ho : ∀ x y : Int32, -2147483648 ≤ f x.toInt y.toInt ∧ f x.toInt y.toInt ≤ 2147483647 → (op x y).toInt = f x.toInt y.toInt)
    (hg : ∀ {mi : eM} {pc : Nat} {lv : List (Nat × Value)} {st : List Value} {ws : va_W} {ce sl : Nat} {K : gK} {z1 z2 : Int32}, (pc, i, 1) ∈ mi.2.2.2.2.2.2 → gG b base LS xs D cl tys Tb NF l CN mi (pc + 1) lv (.int (op z1 z2) :: st) ws ce sl K → gG b base LS xs D cl tys Tb NF l CN mi pc lv (.int z2 :: .int z1 :: st) ws ce sl K) : vHs b base LS xs D cl tys Tb NF l CN so ad ST JL md ws0 uq (yAr f) i 1 := by
  intro ih IH mi pc cd ls st σ K h hm hcd Kg lv stA ws hW hl hs hK
  unfold yAr at h
  split at h
  · rename_i y x r
    obtain ⟨yA, t0, rfl, ⟨z2, rfl, e2⟩, g2⟩ := vsR_cons hs
    obtain ⟨xA, t, rfl, ⟨z1, rfl, e1⟩, g4⟩ := vsR_cons g2
    subst e1
    subst e2
    exact hg hm (IH _ _ _ _ _ _ _ h.2 hcd Kg lv _ ws hW hl ⟨⟨_, rfl, ho _ _ h.1⟩, g4⟩ hK)
  · exact absurd h id
theorem y_arw {wd : List Nat} {f g : Int → Int → Int} {op : Int32 → Int32 → Int32} {i : Instr} (ho : ∀ x y : Int32, -2147483648 ≤ f x.toInt y.toInt ∧ f x.toInt y.toInt ≤ 2147483647 → (op x y).toInt = f x.toInt y.toInt) (ho2 : ∀ x y : Int32, (op x y).toInt = g x.toInt y.toInt)
    (hg : ∀ {mi : eM} {pc : Nat} {lv : List (Nat × Value)} {st : List Value} {ws : va_W} {ce sl : Nat} {K : gK} {z1 z2 : Int32}, (pc, i, 1) ∈ mi.2.2.2.2.2.2 → gG b base LS xs D cl tys Tb NF l CN mi (pc + 1) lv (.int (op z1 z2) :: st) ws ce sl K → gG b base LS xs D cl tys Tb NF l CN mi pc lv (.int z2 :: .int z1 :: st) ws ce sl K) : vHs b base LS xs D cl tys Tb NF l CN so ad ST JL md ws0 uq (yArw wd f g) i 1 := by
  intro ih IH mi pc cd ls st σ K h hm hcd
  unfold yArw at h
  cases hb : vin pc wd with
  | false =>
    rw [hb, cond_false] at h
    exact y_ar ho hg ih IH mi pc cd ls st σ K h hm hcd
  | true =>
    rw [hb, cond_true] at h
    intro Kg lv stA ws hW hl hs hK
    split at h
    · rename_i y x r
      obtain ⟨yA, t0, rfl, ⟨z2, rfl, e2⟩, g2⟩ := vsR_cons hs
      obtain ⟨xA, t, rfl, ⟨z1, rfl, e1⟩, g4⟩ := vsR_cons g2
      have b1 := i_lo (op z1 z2)
      have b2 := i_hi (op z1 z2)
      have b1 : -2147483648 ≤ (op z1 z2).toInt := b1
      have b2 : (op z1 z2).toInt ≤ 2147483647 := b2
      exact hg hm (IH _ _ _ _ _ _ _ (h _ ⟨b1, b2⟩ (by rw [← e1, ← e2]; exact ho2 z1 z2)) hcd Kg lv _ ws hW hl ⟨⟨_, rfl, rfl⟩, g4⟩ hK)
    · exact absurd h id
theorem y_bin {f : Int → Int → Int} {op : Int32 → Int32 → Int32} {i : Instr} (ho : ∀ x y : Int32, (op x y).toInt = f x.toInt y.toInt)
    (hg : ∀ {mi : eM} {pc : Nat} {lv : List (Nat × Value)} {st : List Value} {ws : va_W} {ce sl : Nat} {K : gK} {z1 z2 : Int32}, (pc, i, 1) ∈ mi.2.2.2.2.2.2 → gG b base LS xs D cl tys Tb NF l CN mi (pc + 1) lv (.int (op z1 z2) :: st) ws ce sl K → gG b base LS xs D cl tys Tb NF l CN mi pc lv (.int z2 :: .int z1 :: st) ws ce sl K) : vHs b base LS xs D cl tys Tb NF l CN so ad ST JL md ws0 uq (yBin f) i 1 := by
  intro ih IH mi pc cd ls st σ K h hm hcd Kg lv stA ws hW hl hs hK
  unfold yBin at h
  split at h
  · rename_i y x r
    obtain ⟨yA, t0, rfl, ⟨z2, rfl, e2⟩, g2⟩ := vsR_cons hs
    obtain ⟨xA, t, rfl, ⟨z1, rfl, e1⟩, g4⟩ := vsR_cons g2
    subst e1
    subst e2
    exact hg hm (IH _ _ _ _ _ _ _ h hcd Kg lv _ ws hW hl ⟨⟨_, rfl, ho _ _⟩, g4⟩ hK)
  · exact absurd h id
theorem y_lcmp : vHs b base LS xs D cl tys Tb NF l CN so ad ST JL md ws0 uq yLcmp .lcmp 1 := by
  intro ih IH mi pc cd ls st σ K h hm hcd Kg lv stA ws hW hl hs hK
  unfold yLcmp at h
  split at h
  · obtain ⟨yA, t0, rfl, ⟨z2, rfl⟩, g2⟩ := vsR_cons hs
    obtain ⟨xA, t, rfl, ⟨z1, rfl⟩, g4⟩ := vsR_cons g2
    exact g_lcmp hm (fun z => IH _ _ _ _ _ _ _ (h z.toInt) hcd Kg lv _ ws hW hl ⟨⟨z, rfl, rfl⟩, g4⟩ hK)
  · exact absurd h id
theorem y_i2l : vHs b base LS xs D cl tys Tb NF l CN so ad ST JL md ws0 uq yI2l .i2l 1 := by
  intro ih IH mi pc cd ls st σ K h hm hcd Kg lv stA ws hW hl hs hK
  unfold yI2l at h
  split at h
  · obtain ⟨yA, t0, rfl, ⟨z2, rfl, -⟩, g2⟩ := vsR_cons hs
    exact g_i2l hm (fun z => IH _ _ _ _ _ _ _ h hcd Kg lv _ ws hW hl ⟨⟨z, rfl⟩, g2⟩ hK)
  · exact absurd h id
theorem y_lbin : vHs b base LS xs D cl tys Tb NF l CN so ad ST JL md ws0 uq yLbin .lor 1 := by
  intro ih IH mi pc cd ls st σ K h hm hcd Kg lv stA ws hW hl hs hK
  unfold yLbin at h
  split at h
  · obtain ⟨yA, t0, rfl, ⟨z2, rfl⟩, g2⟩ := vsR_cons hs
    obtain ⟨xA, t, rfl, ⟨z1, rfl⟩, g4⟩ := vsR_cons g2
    exact g_lor hm (fun z => IH _ _ _ _ _ _ _ h hcd Kg lv _ ws hW hl ⟨⟨z, rfl⟩, g4⟩ hK)
  · exact absurd h id
theorem y_lshl : vHs b base LS xs D cl tys Tb NF l CN so ad ST JL md ws0 uq yLshl .lshl 1 := by
  intro ih IH mi pc cd ls st σ K h hm hcd Kg lv stA ws hW hl hs hK
  unfold yLshl at h
  split at h
  · obtain ⟨yA, t0, rfl, ⟨z2, rfl, -⟩, g2⟩ := vsR_cons hs
    obtain ⟨xA, t, rfl, ⟨z1, rfl⟩, g4⟩ := vsR_cons g2
    exact g_lshl hm (fun z => IH _ _ _ _ _ _ _ h hcd Kg lv _ ws hW hl ⟨⟨z, rfl⟩, g4⟩ hK)
  · exact absurd h id
theorem y_dup : vHs b base LS xs D cl tys Tb NF l CN so ad ST JL md ws0 uq yDup .dup 1 := by
  intro ih IH mi pc cd ls st σ K h hm hcd Kg lv stA ws hW hl hs hK
  unfold yDup at h
  split at h
  · rename_i x r
    obtain ⟨h1, h⟩ := e_condP h
    obtain ⟨xA, t, rfl, g1, g2⟩ := vsR_cons hs
    exact g_dup hm (by rw [vvR_cat g1]; exact Nat.eq_of_beq_eq_true h1) (IH _ _ _ _ _ _ _ h hcd Kg lv _ ws hW hl ⟨g1, g1, g2⟩ hK)
  · exact absurd h id
theorem y_pop : vHs b base LS xs D cl tys Tb NF l CN so ad ST JL md ws0 uq yPop .pop 1 := by
  intro ih IH mi pc cd ls st σ K h hm hcd Kg lv stA ws hW hl hs hK
  unfold yPop at h
  split at h
  · rename_i x r
    obtain ⟨h1, h⟩ := e_condP h
    obtain ⟨xA, t, rfl, g1, g2⟩ := vsR_cons hs
    exact g_pop hm (by rw [vvR_cat g1]; exact Nat.eq_of_beq_eq_true h1) (IH _ _ _ _ _ _ _ h hcd Kg lv _ ws hW hl g2 hK)
  · exact absurd h id
theorem y_dup2 : vHs b base LS xs D cl tys Tb NF l CN so ad ST JL md ws0 uq yDup2 .dup2 1 := by
  intro ih IH mi pc cd ls st σ K h hm hcd Kg lv stA ws hW hl hs hK
  unfold yDup2 at h
  split at h
  · rename_i y x r
    obtain ⟨h1, h⟩ := e_condP h
    rw [Bool.and_eq_true] at h1
    obtain ⟨yA, t0, rfl, g1, g2⟩ := vsR_cons hs
    obtain ⟨xA, t, rfl, g3, g4⟩ := vsR_cons g2
    exact g_dup2 hm (by rw [vvR_cat g1]; exact Nat.eq_of_beq_eq_true h1.1) (by rw [vvR_cat g3]; exact Nat.eq_of_beq_eq_true h1.2) (IH _ _ _ _ _ _ _ h hcd Kg lv _ ws hW hl ⟨g1, g3, g1, g3, g4⟩ hK)
  · exact absurd h id
theorem y_dupx : vHs b base LS xs D cl tys Tb NF l CN so ad ST JL md ws0 uq yDupx .dup_x1 1 := by
  intro ih IH mi pc cd ls st σ K h hm hcd Kg lv stA ws hW hl hs hK
  unfold yDupx at h
  split at h
  · rename_i y x r
    obtain ⟨h1, h⟩ := e_condP h
    rw [Bool.and_eq_true] at h1
    obtain ⟨yA, t0, rfl, g1, g2⟩ := vsR_cons hs
    obtain ⟨xA, t, rfl, g3, g4⟩ := vsR_cons g2
    exact g_dupx1 hm (by rw [vvR_cat g1]; exact Nat.eq_of_beq_eq_true h1.1) (by rw [vvR_cat g3]; exact Nat.eq_of_beq_eq_true h1.2) (IH _ _ _ _ _ _ _ h hcd Kg lv _ ws hW hl ⟨g1, g3, g1, g4⟩ hK)
  · exact absurd h id
theorem v_jmp {ih : vRn} (IH : vSn b base LS xs D cl tys Tb NF l CN so ad ST JL md ws0 uq ih) {mi : eM} {pc : Nat} {cd : List eI} {off : Int} {ls : List (Nat × vV)} {r : List vV} {σ : vS} {K : vK} (hcd : vCd mi cd) (h : yJmp ih mi pc off ls r σ K) : ∃ t : Nat, (pc : Int) + off = (t : Int) ∧ VG b base LS xs D cl tys Tb NF l CN so ad ST JL md ws0 uq mi t ls r σ K := by
  unfold yJmp at h
  split at h
  · rename_i t ht
    split at h
    · rename_i cd2 h2
      exact ⟨t, ht, IH _ _ _ _ _ _ _ h ⟨ej_ok h2, hcd.2⟩⟩
    · exact absurd h id
  · exact absurd h id
theorem y_goto {off : Int} : vHs b base LS xs D cl tys Tb NF l CN so ad ST JL md ws0 uq (yGoto off) (.goto off) 3 := by
  intro ih IH mi pc cd ls st σ K h hm hcd Kg lv stA ws hW hl hs hK
  obtain ⟨t, e, g⟩ := v_jmp IH hcd h
  exact g_goto hm e (g Kg lv stA ws hW hl hs hK)
theorem yCmp_ok {c : ClassFile.Cond} {z1 z2 : Int32} {p q : Prop} (h : yCmp c z1.toInt z2.toInt p q) : (eCd c z1 z2 → p) ∧ (¬ eCd c z1 z2 → q) := by
  cases c with
  | eq =>
    refine ⟨fun (e : z1 = z2) => h.1 (by rw [e]), fun (e : ¬ z1 = z2) => h.2 (fun z => e (Int32.toInt_inj.mp z))⟩
  | ne =>
    refine ⟨fun (e : ¬ z1 = z2) => h.1 (fun z => e (Int32.toInt_inj.mp z)), fun (e : ¬ ¬ z1 = z2) => h.2 ?_⟩
    rw [Classical.not_not.mp e]
  | lt =>
    refine ⟨fun (e : z1 < z2) => h.1 (Int32.lt_iff_toInt_lt.mp e), fun (e : ¬ z1 < z2) => h.2 ?_⟩
    rw [Int32.lt_iff_toInt_lt] at e
    omega
  | ge =>
    refine ⟨fun (e : z2 ≤ z1) => h.1 (Int32.le_iff_toInt_le.mp e), fun (e : ¬ z2 ≤ z1) => h.2 ?_⟩
    rw [Int32.le_iff_toInt_le] at e
    omega
  | gt =>
    refine ⟨fun (e : z2 < z1) => h.1 (Int32.lt_iff_toInt_lt.mp e), fun (e : ¬ z2 < z1) => h.2 ?_⟩
    rw [Int32.lt_iff_toInt_lt] at e
    omega
  | le =>
    refine ⟨fun (e : z1 ≤ z2) => h.1 (Int32.le_iff_toInt_le.mp e), fun (e : ¬ z1 ≤ z2) => h.2 ?_⟩
    rw [Int32.le_iff_toInt_le] at e
    omega
theorem y_icmp {c : ClassFile.Cond} {off : Int} : vHs b base LS xs D cl tys Tb NF l CN so ad ST JL md ws0 uq (yIcmp c off) (.if_icmp c off) 3 := by
  intro ih IH mi pc cd ls st σ K h hm hcd Kg lv stA ws hW hl hs hK
  unfold yIcmp at h
  split at h
  · rename_i y x r
    obtain ⟨yA, t0, rfl, ⟨z2, rfl, e2⟩, g2⟩ := vsR_cons hs
    obtain ⟨xA, t, rfl, ⟨z1, rfl, e1⟩, g4⟩ := vsR_cons g2
    subst e1
    subst e2
    obtain ⟨k1, k2⟩ := yCmp_ok h
    refine g_icmp2 hm (fun q => ?_) (fun q => IH _ _ _ _ _ _ _ (k2 q) hcd Kg lv _ ws hW hl g4 hK)
    obtain ⟨t, e, g⟩ := v_jmp IH hcd (k1 q)
    exact ⟨t, e, g Kg lv _ ws hW hl g4 hK⟩
  · exact absurd h id
theorem y_if {c : ClassFile.Cond} {off : Int} : vHs b base LS xs D cl tys Tb NF l CN so ad ST JL md ws0 uq (yIf c off) (.ifCond c off) 3 := by
  intro ih IH mi pc cd ls st σ K h hm hcd Kg lv stA ws hW hl hs hK
  unfold yIf at h
  split at h
  · rename_i x r
    obtain ⟨xA, t, rfl, ⟨z1, rfl, e1⟩, g4⟩ := vsR_cons hs
    subst e1
    have h : yCmp c z1.toInt (0 : Int32).toInt (yJmp ih mi pc off ls r σ K) (ih mi (pc + 3) cd ls r σ K) := h
    obtain ⟨k1, k2⟩ := yCmp_ok h
    refine g_ifc2 hm (fun q => ?_) (fun q => IH _ _ _ _ _ _ _ (k2 q) hcd Kg lv _ ws hW hl g4 hK)
    obtain ⟨t, e, g⟩ := v_jmp IH hcd (k1 q)
    exact ⟨t, e, g Kg lv _ ws hW hl g4 hK⟩
  · exact absurd h id
theorem y_get {FL : eFL} (hF : eFOK cl Tb CN FL) {idx : Nat} : vHs b base LS xs D cl tys Tb NF l CN so ad ST JL md ws0 uq (yGet FL ST uq idx) (.getfield idx) 3 := by
  intro ih IH mi pc cd ls st σ K h hm hcd Kg lv stA ws hW hl hs hK
  unfold yGet at h
  split at h
  · rename_i t rest
    obtain ⟨xA, t0, rfl, g1, g2⟩ := vsR_cons hs
    split at h
    · rename_i q hq
      split at h
      · rename_i ob hob
        obtain ⟨h1, h⟩ := e_condP h
        rw [Bool.and_eq_true] at h1
        have hc := Nat.eq_of_beq_eq_true h1.1
        obtain ⟨o, a, e, rfl, w1, w2, w3⟩ := vr_at hW.1 g1
        unfold eOk at w3
        rw [hob] at w3
        obtain ⟨fs, rfl, k1, k2⟩ := w3
        rw [hc] at w1
        have fin : ∀ f, ob.2[q.2.1]? = some f → ∃ x, fs[q.2.1]? = some x ∧ vOk so ad f x := fun f hf => by
          have hlt : q.2.1 < fs.length := by rw [k1]; exact (List.getElem?_eq_some_iff.mp hf).1
          have hx := List.getElem?_eq_getElem hlt
          exact ⟨_, hx, k2 _ _ _ hf hx⟩
        rw [eg_eq] at h
        split at h
        · rename_i w hf
          obtain ⟨x, hx, z, rfl, -⟩ := fin _ hf
          have hgv : gcv ws o q.2.1 = some (.int z) := by rw [gcv_at w1]; exact hx
          exact g_get hF hm hq w1 hx (IH _ _ _ _ _ _ _ h hcd Kg lv _ ws hW hl ⟨⟨z, rfl, hW.2.2.2 o t _ z w2 h1.2 hgv⟩, g2⟩ hK)
        · rename_i t2 hf
          obtain ⟨x, hx, o2, a2, y1, y2, rfl⟩ := fin _ hf
          exact g_get hF hm hq w1 hx (IH _ _ _ _ _ _ _ h hcd Kg lv _ ws hW hl ⟨⟨o2, a2, y1, y2, rfl⟩, g2⟩ hK)
        · rename_i u hf
          obtain ⟨x, hx, z, rfl⟩ := fin _ hf
          exact g_get hF hm hq w1 hx (IH _ _ _ _ _ _ _ h hcd Kg lv _ ws hW hl ⟨⟨z, rfl⟩, g2⟩ hK)
        · exact absurd h id
      · exact absurd h id
    · exact absurd h id
  · exact absurd h id
theorem vup_ne {σ : vS} {t : Nat} {i z : Int} : ∀ t2 j, ¬ (t2 = t ∧ j = i) → vup σ t i z t2 j = σ t2 j := fun _ _ h => if_neg h
theorem vup_eq {σ : vS} {t : Nat} {i z : Int} : vup σ t i z t i = z := if_pos ⟨rfl, rfl⟩
theorem y_put {FL : eFL} (hF : eFOK cl Tb CN FL) (hU : ∀ t, uq t = true → ∀ o o2 : Nat, so[o]? = some t → so[o2]? = some t → o = o2) {idx : Nat} : vHs b base LS xs D cl tys Tb NF l CN so ad ST JL md ws0 uq (yPut FL ST JL md uq idx) (.putfield idx) 3 := by
  intro ih IH mi pc cd ls st σ K h hm hcd Kg lv stA ws hW hl hs hK
  unfold yPut at h
  split at h
  · rename_i v t rest
    obtain ⟨vA, t1, rfl, g0, g1⟩ := vsR_cons hs
    obtain ⟨xA, t0, rfl, g1, g2⟩ := vsR_cons g1
    split at h
    · rename_i q hq
      split at h
      · rename_i ob hob
        obtain ⟨h1, h⟩ := e_condP h
        simp only [Bool.and_eq_true] at h1
        obtain ⟨h1, hu, hj, hn, hmd⟩ := h1
        have hc := Nat.eq_of_beq_eq_true h1
        have hn : q.2.2 < 10 := Nat.le_of_ble_eq_true hn
        obtain ⟨m1, m2, m3, m4, m5⟩ := amdk_ok hmd
        have m4 : (m1.2.1 : Int) ≤ (q.2.1 : Int) := m4
        have m5 : (q.2.1 : Int) + 1 ≤ (m1.2.2 : Int) := m5
        obtain ⟨o, a, e, rfl, w1, w2, w3⟩ := vr_at hW.1 g1
        unfold eOk at w3
        rw [hob] at w3
        obtain ⟨fs, rfl, k1, k2⟩ := w3
        have hE : ∀ f, ob.2[q.2.1]? = some f → vOk so ad f vA → eOk so ad tys ST t (.inr (ob.1, fs.set q.2.1 vA)) := fun f hf p1 => by
          have hlt : q.2.1 < fs.length := by rw [k1]; exact (List.getElem?_eq_some_iff.mp hf).1
          unfold eOk
          rw [hob]
          refine ⟨_, rfl, by rw [List.length_set]; exact k1, fun i f2 x hf2 hx => ?_⟩
          by_cases hi : i = q.2.1
          · subst hi
            rw [List.getElem?_set_self hlt] at hx
            rw [hf] at hf2
            cases hx; cases hf2
            exact p1
          · rw [List.getElem?_set_ne (fun q => hi q.symm)] at hx
            exact k2 i f2 x hf2 hx
        rw [eg_eq] at h
        split at h
        · rename_i w hf
          have hlt : q.2.1 < fs.length := by rw [k1]; exact (List.getElem?_eq_some_iff.mp hf).1
          split at h
          · rename_i x _
            obtain ⟨zv, rfl, ev⟩ := g0
            have hE := hE _ hf ⟨zv, rfl, by omega, by omega⟩
            have hW2 := v_wr hU hW w1 w2 hE (fun i hi => gcl_fld hi) (vjf_ok hj) ⟨m1, m2, m3, m4, by omega⟩ (σ2 := vup σ t (q.2.1 : Int) x) vup_ne (fun z _ hz => by
              have hz : (fs.set q.2.1 (.int zv))[q.2.1]? = some (.int z) := hz
              rw [List.getElem?_set_self hlt] at hz
              have hz := Option.some.inj hz
              have hz : zv = z := by injection hz
              rw [← hz, vup_eq, ev])
            rw [hc] at w1 hW2
            obtain ⟨hb, h⟩ := h
            cases h0 : Nat.beq (q.2.2 % 10) 0 with
            | true =>
              rw [h0, cond_true] at h
              exact g_put hF hm hq hn w1 hlt (Or.inl ⟨Nat.eq_of_beq_eq_true h0, zv, rfl⟩) (IH _ _ _ _ _ _ _ h hcd Kg lv _ _ hW2 hl g2 hK)
            | false =>
              rw [h0, cond_false] at h
              obtain ⟨h3, h4, h⟩ := e_condP h
              have hz : zv.toInt = 0 ∨ zv.toInt = 1 := by omega
              refine g_put hF hm hq hn w1 hlt (Or.inr (Or.inl ⟨Nat.eq_of_beq_eq_true h3, ?_⟩)) (IH _ _ _ _ _ _ _ h hcd Kg lv _ _ hW2 hl g2 hK)
              rcases hz with hz | hz
              · exact Or.inl (by rw [show zv = 0 from Int32.toInt_inj.mp hz])
              · exact Or.inr (by rw [show zv = 1 from Int32.toInt_inj.mp hz])
          · exact absurd h id
        · rename_i u hf
          have hlt : q.2.1 < fs.length := by rw [k1]; exact (List.getElem?_eq_some_iff.mp hf).1
          split at h
          · rename_i u2
            obtain ⟨zv, rfl⟩ := g0
            obtain ⟨h3, h⟩ := e_condP h
            have hE := hE _ hf ⟨zv, rfl⟩
            have hW2 := v_wr hU hW w1 w2 hE (fun i hi => gcl_fld hi) (vjf_ok hj) ⟨m1, m2, m3, m4, by omega⟩ (σ2 := σ) (fun _ _ _ => rfl) (fun z _ hz => by
              have hz : (fs.set q.2.1 (.long zv))[q.2.1]? = some (.int z) := hz
              rw [List.getElem?_set_self hlt] at hz
              cases hz)
            rw [hc] at w1 hW2
            exact g_put hF hm hq hn w1 hlt (Or.inr (Or.inr ⟨Nat.eq_of_beq_eq_true h3, zv, rfl⟩)) (IH _ _ _ _ _ _ _ h hcd Kg lv _ _ hW2 hl g2 hK)
          · exact absurd h id
        · exact absurd h id
      · exact absurd h id
    · exact absurd h id
  · exact absurd h id
end VI
