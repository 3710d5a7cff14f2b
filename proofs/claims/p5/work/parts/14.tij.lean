/-! THE CHECKER IS RIGHT: copies, certificates, the whole. -/
section G4
variable {b base LS : Nat} {xs : Nat → Int32} {D : va_G} {cl : List vw_C} {tys : List (ClassId × FieldType)} {Tb : List Cond} {NF : State → Prop} {l : Launch} {CN : Nat → String}
/-- System.arraycopy of ints, from 0 to 0 -/
theorem g_copyi2 {mi : eM} {pc : Nat} {lv : List (Nat × Value)} {st : List Value} {ws : va_W} {ce sl : Nat} {K : gK} {CL : eFL} (hO : gCcy Tb CN CL) {idx x n : Nat} (hcl : CL mi.1 idx = some (7, x, n)) (hm : (pc, .invokestatic idx, 3) ∈ mi.2.2.2.2.2.2)
    {o1 o2 a1 a2 t1 t2 n1 n2 : Nat} {cA cB : ClassId} {f g : Nat → Int32} (he1 : ws[o1]? = some (a1, .inl (cA, n1, .inl f))) (he2 : ws[o2]? = some (a2, .inl (cB, n2, .inl g))) (ht1 : tys[t1]? = some (cA, .int)) (ht2 : tys[t2]? = some (cB, .int)) {z : Int32} (hz : ¬ z < 0) (h4 : z.toNatClampNeg ≤ n1) (h5 : z.toNatClampNeg ≤ n2)
    (b1 : 1 ≤ mi.2.2.2.1) (b2 : (st.map fun v => v.category).sum + 100 ≤ mi.2.2.2.2.1)
    (h : gG b base LS xs D cl tys Tb NF l CN mi (pc + 3) lv st (ws.set o2 (a2, .inl (cB, n2, .inl (va_cpy f g 0 0 z.toNatClampNeg)))) ce sl K) : gG b base LS xs D cl tys Tb NF l CN mi pc lv (.int z :: .int 0 :: .ref a2 :: .int 0 :: .ref a1 :: st) ws ce sl K := by
  intro p e R s m args below meth c Q cc nL X hR H locs lsA hw hl
  have hd := X.2.2.2.2.2.2.2.2.1 _ hm
  have hRc := X.2.2.2.2.2.2.2.1
  have hts := X.2.2.2.2.1
  have d1 : 1 ≤ R.frames := by rw [hRc.2.2.1]; exact b1
  have d2 : (st.map fun v => v.category).sum + (nativeFrameWords "java/lang/System" "arraycopy" 5 + 11) ≤ R.locals := by
    rw [hRc.2.2.2]
    have := e_nfw
    omega
  have c0 : (0 : Int32).toNatClampNeg = 0 := rfl
  exact va_copyi (ty := .int) (sp := 0) (dp := 0) (n := z) X.1 X.2.1 (by rw [X.2.2.1]; exact hl.1.symm) X.2.2.2.1 (hts _ (hO.1 _ _ _ _ hcl)) (hts _ hO.2.1) (hts _ hO.2.2.1) (hts _ hO.2.2.2) hw.1 hw.2.1 hw.2.2.1 hw.2.2.2 o1 o2 t1 t2 he1 he2 ht1 ht2 rfl (by decide) (by decide) hz (by rw [c0]; omega) (by rw [c0]; omega) (fun _ _ => rfl) d1 d2 hd.1.1 (fun H1 locs1 q1 q2 q3 => h p e R s m args below meth c Q cc nL X hR H1 locs1 lsA ⟨hw.1, q1, q2, q3⟩ hl)
theorem g_copyl2 {mi : eM} {pc : Nat} {lv : List (Nat × Value)} {st : List Value} {ws : va_W} {ce sl : Nat} {K : gK} {CL : eFL} (hO : gCcy Tb CN CL) {idx x n : Nat} (hcl : CL mi.1 idx = some (7, x, n)) (hm : (pc, .invokestatic idx, 3) ∈ mi.2.2.2.2.2.2)
    {o1 o2 a1 a2 t1 t2 n1 n2 : Nat} {cA cB : ClassId} {f g : Nat → Int64} (he1 : ws[o1]? = some (a1, .inl (cA, n1, .inr (.inl f)))) (he2 : ws[o2]? = some (a2, .inl (cB, n2, .inr (.inl g)))) (ht1 : tys[t1]? = some (cA, .long)) (ht2 : tys[t2]? = some (cB, .long)) {z : Int32} (hz : ¬ z < 0) (h4 : z.toNatClampNeg ≤ n1) (h5 : z.toNatClampNeg ≤ n2)
    (b1 : 1 ≤ mi.2.2.2.1) (b2 : (st.map fun v => v.category).sum + 100 ≤ mi.2.2.2.2.1)
    (h : gG b base LS xs D cl tys Tb NF l CN mi (pc + 3) lv st (ws.set o2 (a2, .inl (cB, n2, .inr (.inl (va_cpy f g 0 0 z.toNatClampNeg))))) ce sl K) : gG b base LS xs D cl tys Tb NF l CN mi pc lv (.int z :: .int 0 :: .ref a2 :: .int 0 :: .ref a1 :: st) ws ce sl K := by
  intro p e R s m args below meth c Q cc nL X hR H locs lsA hw hl
  have hd := X.2.2.2.2.2.2.2.2.1 _ hm
  have hRc := X.2.2.2.2.2.2.2.1
  have hts := X.2.2.2.2.1
  have d1 : 1 ≤ R.frames := by rw [hRc.2.2.1]; exact b1
  have d2 : (st.map fun v => v.category).sum + (nativeFrameWords "java/lang/System" "arraycopy" 5 + 11) ≤ R.locals := by
    rw [hRc.2.2.2]
    have := e_nfw
    omega
  have c0 : (0 : Int32).toNatClampNeg = 0 := rfl
  exact va_copyl (ty := .long) (sp := 0) (dp := 0) (n := z) X.1 X.2.1 (by rw [X.2.2.1]; exact hl.1.symm) X.2.2.2.1 (hts _ (hO.1 _ _ _ _ hcl)) (hts _ hO.2.1) (hts _ hO.2.2.1) (hts _ hO.2.2.2) hw.1 hw.2.1 hw.2.2.1 hw.2.2.2 o1 o2 t1 t2 he1 he2 ht1 ht2 rfl (by decide) (by decide) hz (by rw [c0]; omega) (by rw [c0]; omega) (fun _ _ => rfl) d1 d2 hd.1.1 (fun H1 locs1 q1 q2 q3 => h p e R s m args below meth c Q cc nL X hR H1 locs1 lsA ⟨hw.1, q1, q2, q3⟩ hl)
end G4
section AI4
variable {b base LS : Nat} {xs : Nat → Int32} {D : va_G} {cl : List vw_C} {tys : List (ClassId × FieldType)} {Tb : List Cond} {NF : State → Prop} {l : Launch} {CN : Nat → String} {so ad : List Nat} {ST : Nat → Option aS} {JL : List aJ} {md : aMd} {ws0 : va_W}
/-- an array is written whole -/
theorem a_cpy {A : aA} {ρ : Nat → Int} {ρr : Nat → Nat} {ws : va_W} (hR : aRel b so ad tys ST JL ρ ρr md ws0 A ws) (hW : jWf ST so JL) {o t a n : Nat} {e e2 : va_E} {ob : Nat × Nat × List (Nat × Int × Int) × Nat} (hob : ST t = some (.inr ob)) (hw : ws[o]? = some (a, e)) (ht : so[o]? = some t) (hE : eOk so ad tys ST t e2) (hX : xE t e2) (hc : ∀ i, ¬ i < n → gcl e2 i = gcl e i) (hno : ajno t JL = true) (hmd : amdk md t 0 (Int.ofNat n - 1) = true) : hRel so ad tys ST JL md ws0 (ws.set o (a, e2)) ∧ fRel so [(t, 0, n)] ws (ws.set o (a, e2)) := by
  have hF : fRel so [(t, 0, n)] ws (ws.set o (a, e2)) := by
    intro o2 t2 i h1 h2
    rw [gcv_set hw]
    by_cases ho : o2 = o
    · subst ho
      rw [if_pos rfl, gcv_at hw]
      refine hc i (fun hlt => ?_)
      rw [ht] at h1
      cases h1
      exact h2 (t, 0, n) List.mem_cons_self ⟨rfl, Nat.zero_le _, hlt⟩
    · rw [if_neg ho]
  obtain ⟨hWo, hJ, hF0⟩ := hR.2.2.1
  refine ⟨⟨⟨by rw [ead_set hw]; exact hWo.1, hWo.2.1, fun o2 t2 q hq ht2 => ?_⟩, j_oth hJ hw ht (fun J hJ2 => ⟨fun q => ?_, ajin_no (ajno_ok hno J hJ2)⟩), fRel_tr hF0 hF (fun q hq => ?_)⟩, hF⟩
  · have hl : o < ws.length := (List.getElem?_eq_some_iff.mp hw).1
    by_cases ho : o2 = o
    · subst ho
      rw [List.getElem?_set_self hl] at hq
      cases hq
      rw [ht] at ht2
      cases ht2
      exact ⟨hE, hX⟩
    · rw [List.getElem?_set_ne (fun q => ho q.symm)] at hq
      exact hWo.2.2 o2 t2 q hq ht2
  · obtain ⟨⟨u, w1, -⟩, -⟩ := hW J hJ2
    rw [q, hob] at w1
    cases w1
  · rcases List.mem_cons.mp hq with rfl | hq
    · obtain ⟨u, g1, g2, g3, g4⟩ := amdk_ok hmd
      have g4 : (n : Int) - 1 + 1 ≤ (u.2.2 : Int) := g4
      exact ⟨u, g1, g2, by show u.2.1 ≤ 0; omega, by show n ≤ u.2.2; omega⟩
    · exact absurd hq List.not_mem_nil
theorem v_zero {A : aA} {ρ : Nat → Int} {ρr : Nat → Nat} {ws : va_W} (hR : aRel b so ad tys ST JL ρ ρr md ws0 A ws) {y : Nat × Int} {x : Value} (hv : vRel b ad ρ ρr A.1 A.2.2.1 (.inl y) x) (h1 : Nat.beq y.1 0 = true) (h2 : ieq y.2 0 = true) : x = .int 0 := by
  obtain ⟨z, rfl, e⟩ := vRel_int hv
  rw [Nat.eq_of_beq_eq_true h1, (ieq_iff _ _).mp h2, hR.1.2.2.1] at e
  rw [show z = 0 from Int32.toInt_inj.mp e]
theorem k_copy {CL : eFL} (hO : gCcy Tb CN CL) (hW : jWf ST so JL) {idx x0 n0 : Nat} : ∀ (ih : aRn), aSn b base LS xs D cl tys Tb NF l CN so ad ST JL md ws0 ih → ∀ (mi : eM) (xt : aXt) (pc : Nat) (cd : List eI) (ls : List (Nat × aV)) (st : List aV) (A : aA) (ac as : Nat) (sp : List aT) (k : aK), CL mi.1 idx = some (7, x0, n0) → acopy ST JL md ih mi xt pc cd ls st A ac as sp k = true →
    ∀ (K : gK) (ce sl : Nat) (ρ : Nat → Int) (ρr : Nat → Nat) (lv : List (Nat × Value)) (stA : List Value) (ws : va_W), (pc, .invokestatic idx, 3) ∈ mi.2.2.2.2.2.2 → aCx b base LS xs D cl tys Tb NF l CN so ad ST JL md ws0 mi cd A sp k K ce sl ρ ρr ws → lRel b ad ρ ρr A.1 A.2.2.1 ls lv → sRel b ad ρ ρr A.1 A.2.2.1 st stA → gG b base LS xs D cl tys Tb NF l CN mi pc lv stA ws (ce + ac) (sl + as) K := by
  intro ih IH mi xt pc cd ls st A ac as sp k hcl h K ce sl ρ ρr lv stA ws hm X hl hs
  unfold acopy at h
  split at h
  · rename_i x y bb z aa r
    obtain ⟨xA, t1, rfl, g1, gA⟩ := sRel_cons hs
    obtain ⟨yA, t2, rfl, g2, gB⟩ := sRel_cons gA
    obtain ⟨bA, t3, rfl, g3, gC⟩ := sRel_cons gB
    obtain ⟨zA, t4, rfl, g4, gD⟩ := sRel_cons gC
    obtain ⟨aA, t5, rfl, g5, g6⟩ := sRel_cons gD
    have hR := X.2.2.2.1
    obtain ⟨h0, h⟩ := e_cond h e_ff
    simp only [Bool.and_eq_true] at h0
    obtain ⟨⟨y1, y2, y3, y4⟩, y5, y6⟩ := h0
    have e1 := v_zero hR g2 y1 y2
    have e2 := v_zero hR g4 y3 y4
    subst e1; subst e2
    have y5 := Nat.le_of_ble_eq_true y5
    have y6 := Nat.le_of_ble_eq_true y6
    split at h
    · rename_i ta tb hta htb
      split at h
      · rename_i oa ob hoa hob
        obtain ⟨lo, hi, h, b1, b2⟩ := abd_ok hR.1 h
        obtain ⟨hb, h⟩ := e_cond h e_ff
        simp only [Bool.and_eq_true] at hb
        obtain ⟨⟨k1, k2, k3⟩, ⟨k4, k5, k7⟩, k6⟩ := hb
        rw [ile_iff] at k1 k2 k3
        have k2 : hi ≤ (oa.2.1 : Int) := k2
        have k3 : hi ≤ (ob.2.1 : Int) := k3
        have k6 := Nat.eq_of_beq_eq_true k6
        obtain ⟨q0, zn, rfl, e0⟩ := g1
        rw [← e0] at b1 b2
        obtain ⟨a1, ea, rfl, w1, w2, w3⟩ := r_at hR g5 hta
        obtain ⟨a2, eb, rfl, v1, v2, v3⟩ := r_at hR g3 htb
        obtain ⟨hk, h⟩ := e_cond h e_ff
        have hzn : ¬ zn < 0 := fun q => by
          rw [Int32.lt_iff_toInt_lt] at q
          have : (0 : Int32).toInt = 0 := rfl
          omega
        have hc1 : zn.toNatClampNeg ≤ oa.2.1 := by rw [i_clamp]; omega
        have hc2 : zn.toNatClampNeg ≤ ob.2.1 := by rw [i_clamp]; omega
        have hcat : (t5.map fun v => v.category).sum + 100 ≤ mi.2.2.2.2.1 := by rw [sRel_cats g6]; exact y6
        have hO2 := hO
        unfold eOk at w3 v3
        rw [hoa] at w3
        rw [hob] at v3
        have fin : ∀ (e2 : va_E), eOk so ad tys ST tb e2 → xE tb e2 → (∀ i, ¬ i < ob.2.1 → gcl e2 i = gcl eb i) → gG b base LS xs D cl tys Tb NF l CN mi (pc + 3) lv t5 (ws.set (ρr bb) (a2, e2)) (ce + ac) (sl + as) K := fun e2 hE hX hc => by
          obtain ⟨p1, p2⟩ := a_cpy hR hW hob v1 v2 hE hX hc k5 k4
          obtain ⟨A2, z1, z2, z3, z4, z5, z6, z7⟩ := afor_ok hR p1 p2 h
          have u : aUp A ρ ρr A2 ρ ρr := aUp.same z2 z4
          exact IH _ _ _ _ _ _ _ _ _ _ _ z1 K ce sl ρ ρr lv _ _ (aCx_up X u z7) (lRel_up u.1 u.2.1 u.2.2 hl) (sRel_up u.1 u.2.1 u.2.2 g6)
        split at hk
        · rename_i hk0
          rcases w3 with ⟨q3, cA, f, t6, rfl, q1, q2⟩ | ⟨q1, -⟩ | ⟨q1, -⟩
          · rcases v3 with ⟨r3, cB, g, t7, rfl, r1, r2⟩ | ⟨r1, -⟩ | ⟨r1, -⟩
            · have hE : eOk so ad tys ST tb (.inl (cB, ob.2.1, .inl (va_cpy f g 0 0 zn.toNatClampNeg))) := by
                unfold eOk
                rw [hob]
                refine Or.inl ⟨r3, cB, _, t7, rfl, r1, fun j hj => ?_⟩
                obtain ⟨u, u1, u2, u3⟩ := r2 j hj
                refine ⟨u, u1, ?_⟩
                unfold va_cpy
                by_cases hjn : 0 ≤ j ∧ j < 0 + zn.toNatClampNeg
                · rw [if_pos hjn, Nat.zero_add, Nat.sub_zero]
                  obtain ⟨s, s1, s2, s3⟩ := q2 j (by omega)
                  cases hbt : Nat.beq ta tb with
                  | true =>
                    have htt := Nat.eq_of_beq_eq_true hbt
                    rw [htt, hob] at hoa
                    cases hoa
                    rw [s1] at u1
                    cases u1
                    exact ⟨s2, s3⟩
                  | false =>
                    rw [hbt, cond_false] at hk
                    split at hk
                    · rename_i w hw
                      obtain ⟨m1, m2⟩ := argj_ok hw j s (by omega) (by show (j : Int) ≤ (oa.2.1 : Int) - 1; omega) s1
                      obtain ⟨m3, m4⟩ := argw_ok hk j u (by omega) (by show (j : Int) ≤ (ob.2.1 : Int) - 1; omega) u1
                      omega
                    · cases hk
                · rw [if_neg hjn]
                  exact ⟨u2, u3⟩
              have q1 : tys[t6]? = some (cA, .int) := by rw [hk0] at q1; exact q1
              have r1 : tys[t7]? = some (cB, .int) := by rw [← k6, hk0] at r1; exact r1
              refine g_copyi2 hO hcl hm w1 v1 q1 r1 hzn hc1 hc2 y5 hcat (fin _ hE (fun _ _ f _ => xP_free k7 f) (fun i hi => ?_))
              show (if i < ob.2.1 then some (Value.int (va_cpy f g 0 0 zn.toNatClampNeg i)) else none) = (if i < ob.2.1 then some (Value.int (g i)) else none)
              rw [if_neg hi, if_neg hi]
            · omega
            · omega
          · omega
          · omega
        · rename_i hk0
          rcases w3 with ⟨q1, -⟩ | ⟨q3, cA, f, t6, rfl, q1⟩ | ⟨q1, -⟩
          · omega
          · rcases v3 with ⟨r1, -⟩ | ⟨r3, cB, g, t7, rfl, r1⟩ | ⟨r1, -⟩
            · omega
            · have hE : eOk so ad tys ST tb (.inl (cB, ob.2.1, .inr (.inl (va_cpy f g 0 0 zn.toNatClampNeg)))) := by
                unfold eOk
                rw [hob]
                exact Or.inr (Or.inl ⟨r3, cB, _, t7, rfl, r1⟩)
              refine g_copyl2 hO hcl hm w1 v1 q1 r1 hzn hc1 hc2 y5 hcat (fin _ hE (fun _ _ f _ => xP_free k7 f) (fun i hi => ?_))
              show (if i < ob.2.1 then some (Value.long (va_cpy f g 0 0 zn.toNatClampNeg i)) else none) = (if i < ob.2.1 then some (Value.long (g i)) else none)
              rw [if_neg hi, if_neg hi]
            · omega
          · omega
        · cases hk
      · cases h
    · cases h
  · cases h
end AI4
