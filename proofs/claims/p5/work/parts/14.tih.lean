/-! THE CHECKER IS RIGHT: fields, arrays, ends. -/
theorem gcl_fld {ci : Nat} {fs : List Value} {f i : Nat} {x : Value} (h : ¬ i = f) : gcl (.inr (ci, fs.set f x)) i = gcl (.inr (ci, fs)) i := List.getElem?_set_ne (fun q => h q.symm)
theorem gcl_int {cA : ClassId} {n i : Nat} {f : Nat → Int32} (h : i < n) : gcl (.inl (cA, n, .inl f)) i = some (.int (f i)) := if_pos h
theorem gcl_upd {cA : ClassId} {n i j : Nat} {f : Nat → Int32} {x : Int32} (h : ¬ i = j) : gcl (.inl (cA, n, .inl (upd f j x))) i = gcl (.inl (cA, n, .inl f)) i := by
  show (if i < n then some (Value.int (upd f j x i)) else none) = (if i < n then some (Value.int (f i)) else none)
  rw [show upd f j x i = f i from if_neg h]
theorem gcl_updL {cA : ClassId} {n i j : Nat} {f : Nat → Int64} {x : Int64} (h : ¬ i = j) : gcl (.inl (cA, n, .inr (.inl (vp_updL f j x)))) i = gcl (.inl (cA, n, .inr (.inl f))) i := by
  show (if i < n then some (Value.long (vp_updL f j x i)) else none) = (if i < n then some (Value.long (f i)) else none)
  rw [show vp_updL f j x i = f i from if_neg h]
theorem i_clamp (z : Int32) : z.toNatClampNeg = z.toInt.toNat := rfl
section AI2
variable {b base LS : Nat} {xs : Nat → Int32} {D : va_G} {cl : List vw_C} {tys : List (ClassId × FieldType)} {Tb : List Cond} {NF : State → Prop} {l : Launch} {CN : Nat → String} {so ad : List Nat} {ST : Nat → Option aS} {JL : List aJ} {md : aMd} {ws0 : va_W}
/-- the thing of a ref -/
theorem r_at {A : aA} {ρ : Nat → Int} {ρr : Nat → Nat} {ws : va_W} (hR : aRel b so ad tys ST JL ρ ρr md ws0 A ws) {r t : Nat} {x : Value} (hv : vRel b ad ρ ρr A.1 A.2.2.1 (.inr (.inl r)) x) (ht : asrt A r = some t) : ∃ a e, x = .ref a ∧ ws[ρr r]? = some (a, e) ∧ so[ρr r]? = some t ∧ eOk so ad tys ST t e := by
  obtain ⟨h1, a, h2, rfl⟩ := hv
  obtain ⟨s1, s2⟩ := asrt_ok hR ht
  obtain ⟨a2, e, w1, w2, w3⟩ := w_at hR.2.2.1.1 s2
  rw [h2] at w2
  cases w2
  exact ⟨a, e, rfl, w1, s2, w3⟩
theorem m_fld {A : aA} {ρ : Nat → Int} {ρr : Nat → Nat} {ws : va_W} (hR : aRel b so ad tys ST JL ρ ρr md ws0 A ws) {r f : Nat} {v : aV} (h : amf A.2.2.2.2 r (0, Int.ofNat f) = some v) : ∃ x, gcv ws (ρr r) f = some x ∧ vRel b ad ρ ρr A.1 A.2.2.1 v x := by
  obtain ⟨t, ht⟩ := amf_mem h
  obtain ⟨-, -, -, i, x, g4, g5, g6⟩ := hR.2.2.2 _ ht
  dsimp only at g4 g5 g6
  rw [hR.1.2.2.1] at g4
  have e : i = f := by
    have : (Int.ofNat f : Int) = (f : Int) := rfl
    omega
  subst e
  exact ⟨x, g5, g6⟩
theorem m_new {A : aA} {ρ : Nat → Int} {ρr : Nat → Nat} {ws : va_W} (hR : aRel b so ad tys ST JL ρ ρr md ws0 A ws) {r t f : Nat} {v : aV} {x : Value} (hr : r < A.2.2.1) (ht : so[ρr r]? = some t) (hx : gcv ws (ρr r) f = some x) (hv : vRel b ad ρ ρr A.1 A.2.2.1 v x) : mRel b so ad ρ ρr A.1 A.2.2.1 ws (r, t, (0, Int.ofNat f), v) :=
  ⟨hr, ht, hR.1.1, f, x, by show (f : Int) = ρ 0 + Int.ofNat f; rw [hR.1.2.2.1, Int.zero_add]; rfl, hx, hv⟩
theorem k_get {FL : eFL} (hF : eFOK cl Tb CN FL) {idx : Nat} : aHs b base LS xs D cl tys Tb NF l CN so ad ST JL md ws0 (kGet FL ST idx) (.getfield idx) 3 := by
  intro ih IH mi xt pc cd ls st A ac as sp k h K ce sl ρ ρr lv stA ws hm X hl hs
  unfold kGet at h
  split at h
  · rename_i r rest
    obtain ⟨xA, t0, rfl, g1, g2⟩ := sRel_cons hs
    split at h
    · rename_i q hq
      split at h
      · rename_i t ht
        split at h
        · rename_i ob hob
          obtain ⟨h1, h⟩ := e_cond h e_ff
          have h1 := Nat.eq_of_beq_eq_true h1
          rw [eg_eq] at h
          split at h
          · rename_i f hf
            have hR := X.2.2.2.1
            obtain ⟨a, e, rfl, w1, w2, w3⟩ := r_at hR g1 ht
            unfold eOk at w3
            rw [hob] at w3
            obtain ⟨fs, rfl, k1, k2⟩ := w3
            rw [h1] at w1
            have hlt : q.2.1 < fs.length := by rw [k1]; exact (List.getElem?_eq_some_iff.mp hf).1
            have hx := List.getElem?_eq_getElem hlt
            have hgv : gcv ws (ρr r) q.2.1 = some fs[q.2.1] := by rw [gcv_at w1]; exact hx
            refine g_get hF hm hq w1 hx ?_
            split at h
            · rename_i v hv
              obtain ⟨x2, y1, y2⟩ := m_fld hR hv
              rw [hgv] at y1
              have y1 := Option.some.inj y1
              subst y1
              exact IH _ _ _ _ _ _ _ _ _ _ _ h K ce sl ρ ρr lv _ ws X hl ⟨y2, g2⟩
            · obtain ⟨v, A2, ρ2, ρr2, y1, y2, y3, y4⟩ := afr_ok hR h (k2 _ _ _ hf hx) (i_par0 hR)
              have hr2 : ρr2 r = ρr r := y2.2.2.2 r g1.1
              obtain ⟨A3, z1, z2, z3, z4⟩ := aput_ok y3 y1 (m_new y3 (Nat.lt_of_lt_of_le g1.1 y2.2.1) (by rw [hr2]; exact w2) (by rw [hr2]; exact hgv) y4)
              have u := y2.trans (aUp.same (ρ := ρ2) (ρr := ρr2) z2 z3)
              exact IH _ _ _ _ _ _ _ _ _ _ _ z1 K ce sl ρ2 ρr2 lv _ ws (aCx_up X u z4) (lRel_up u.1 u.2.1 u.2.2 hl) ⟨by rw [z2, z3]; exact y4, sRel_up u.1 u.2.1 u.2.2 g2⟩
          · cases h
        · cases h
      · cases h
    · cases h
  · cases h
theorem apfit_ok {A : aA} {ρ : Nat → Int} {ρr : Nat → Nat} {ws : va_W} (hR : aRel b so ad tys ST JL ρ ρr md ws0 A ws) {ty : Nat} {f : aF} {v : aV} {x : Value} (hv : vRel b ad ρ ρr A.1 A.2.2.1 v x) (h : apfit A ty f v = true) : vOk so ad f x ∧ gFit ty x := by
  unfold apfit at h
  rw [Bool.and_eq_true] at h
  refine ⟨afit_ok hR h.1 hv, ?_⟩
  rcases v with y | r | m
  · have h : (Nat.beq (ty % 10) 0 || (Nat.beq (ty % 10) 1 && abd A y (fun lo hi => ile 0 lo && ile hi 1))) = true := h.2
    obtain ⟨z, rfl, e⟩ := vRel_int hv
    rw [Bool.or_eq_true] at h
    rcases h with h | h
    · exact Or.inl ⟨Nat.eq_of_beq_eq_true h, z, rfl⟩
    · rw [Bool.and_eq_true] at h
      obtain ⟨lo, hi, h3, b1, b2⟩ := abd_ok hR.1 h.2
      rw [Bool.and_eq_true, ile_iff, ile_iff] at h3
      refine Or.inr (Or.inl ⟨Nat.eq_of_beq_eq_true h.1, ?_⟩)
      have hz : z.toInt = 0 ∨ z.toInt = 1 := by omega
      rcases hz with hz | hz
      · exact Or.inl (by rw [show z = 0 from Int32.toInt_inj.mp hz])
      · exact Or.inr (by rw [show z = 1 from Int32.toInt_inj.mp hz])
  · have h : false = true := h.2
    cases h
  · match m, h.2, hv with
    | 0, h, ⟨z, hz⟩ =>
      have h : Nat.beq (ty % 10) 3 = true := h
      exact Or.inr (Or.inr ⟨Nat.eq_of_beq_eq_true h, z, hz⟩)
    | _ + 1, h, _ => cases h
theorem k_put {FL : eFL} (hF : eFOK cl Tb CN FL) (hW : jWf ST so JL) {idx : Nat} : aHs b base LS xs D cl tys Tb NF l CN so ad ST JL md ws0 (kPut FL ST JL md idx) (.putfield idx) 3 := by
  intro ih IH mi xt pc cd ls st A ac as sp k h K ce sl ρ ρr lv stA ws hm X hl hs
  unfold kPut at h
  split at h
  · rename_i v r rest
    obtain ⟨vA, t1, rfl, g0, g1⟩ := sRel_cons hs
    obtain ⟨xA, t0, rfl, g1, g2⟩ := sRel_cons g1
    split at h
    · rename_i q hq
      split at h
      · rename_i t ht
        split at h
        · rename_i ob hob
          obtain ⟨h1, h⟩ := e_cond h e_ff
          rw [Bool.and_eq_true, Bool.and_eq_true] at h1
          obtain ⟨h1, hn, hmd⟩ := h1
          have h1 := Nat.eq_of_beq_eq_true h1
          have hn : q.2.2 < 10 := Nat.le_of_ble_eq_true hn
          rw [eg_eq] at h
          split at h
          · rename_i f hf
            obtain ⟨hp, h⟩ := e_cond h e_ff
            rw [Bool.and_eq_true] at hp
            have hR := X.2.2.2.1
            obtain ⟨a, e, rfl, w1, w2, w3⟩ := r_at hR g1 ht
            unfold eOk at w3
            rw [hob] at w3
            obtain ⟨fs, rfl, k1, k2⟩ := w3
            have hlt : q.2.1 < fs.length := by rw [k1]; exact (List.getElem?_eq_some_iff.mp hf).1
            obtain ⟨p1, p2⟩ := apfit_ok hR g0 hp.1
            have hJ := j_fld hR hW w1 w2 ⟨ob, hob⟩ hlt g0 hp.2
            have hE : eOk so ad tys ST t (.inr (ob.1, fs.set q.2.1 vA)) := by
              unfold eOk
              rw [hob]
              refine ⟨_, rfl, by rw [List.length_set]; exact k1, fun i f2 x hf2 hx => ?_⟩
              by_cases hi : i = q.2.1
              · subst hi
                rw [List.getElem?_set_self hlt] at hx
                rw [hf] at hf2
                cases hx; cases hf2
                exact p1
              · rw [List.getElem?_set_ne (fun q => hi q.symm)] at hx
                exact k2 i f2 x hf2 hx
            obtain ⟨m1, m2, m3, m4, m5⟩ := amdk_ok hmd
            have m4 : (m1.2.1 : Int) ≤ (q.2.1 : Int) := m4
            have m5 : (q.2.1 : Int) + 1 ≤ (m1.2.2 : Int) := m5
            obtain ⟨A2, y1, y2, y3, y4⟩ := a_wr hR w1 w2 hE (fun _ _ _ q => (nomatch q)) (fun i hi => gcl_fld hi) hJ ⟨m1, m2, m3, by omega, by omega⟩ (ix := (0, Int.ofNat q.2.1)) (by show ρ 0 + Int.ofNat q.2.1 = _; rw [hR.1.2.2.1, Int.zero_add]; rfl) h
            have hgv : gcv (ws.set (ρr r) (a, .inr (ob.1, fs.set q.2.1 vA))) (ρr r) q.2.1 = some vA := by
              rw [gcv_set w1, if_pos rfl]
              exact List.getElem?_set_self hlt
            obtain ⟨A3, z1, z2, z3, z4⟩ := aput_ok y4 y1 (m_new y4 (by rw [y3]; exact g1.1) w2 hgv (by rw [y2, y3]; exact g0))
            have u : aUp A ρ ρr A3 ρ ρr := aUp.same (by rw [z2, y2]) (by rw [z3, y3])
            rw [h1] at w1 z4
            exact g_put hF hm hq hn w1 hlt p2 (IH _ _ _ _ _ _ _ _ _ _ _ z1 K ce sl ρ ρr lv _ _ (aCx_up X u z4) (lRel_up u.1 u.2.1 u.2.2 hl) (sRel_up u.1 u.2.1 u.2.2 g2))
          · cases h
        · cases h
      · cases h
    · cases h
  · cases h
theorem k_alen : aHs b base LS xs D cl tys Tb NF l CN so ad ST JL md ws0 (kAlen ST) .arraylength 1 := by
  intro ih IH mi xt pc cd ls st A ac as sp k h K ce sl ρ ρr lv stA ws hm X hl hs
  unfold kAlen at h
  split at h
  · rename_i r rest
    obtain ⟨xA, t0, rfl, g1, g2⟩ := sRel_cons hs
    split at h
    · rename_i t ht
      split at h
      · rename_i ob hob
        obtain ⟨h1, h⟩ := e_cond h e_ff
        have h1 := Nat.le_of_ble_eq_true h1
        have hR := X.2.2.2.1
        obtain ⟨a, e, rfl, w1, w2, w3⟩ := r_at hR g1 ht
        unfold eOk at w3
        rw [hob] at w3
        have hv : vRel b ad ρ ρr A.1 A.2.2.1 (.inl (0, Int.ofNat ob.2.1)) (.int (Int32.ofNat ob.2.1)) := v_const hR (i_ofNat (by omega))
        have hn := IH _ _ _ _ _ _ _ _ _ _ _ h K ce sl ρ ρr lv (_ :: t0) ws X hl ⟨hv, g2⟩
        rcases w3 with ⟨-, cA, f, t1, rfl, q1, -⟩ | ⟨-, cA, f, t1, rfl, q1⟩ | ⟨-, cA, C, f, t1, rfl, q1, -⟩
        · exact g_alen hm w1 q1 hn
        · exact g_alen hm w1 q1 hn
        · exact g_alen hm w1 q1 hn
      · cases h
    · cases h
  · rename_i rest
    obtain ⟨xA, t0, rfl, g1, g2⟩ := sRel_cons hs
    have g1 : xA = .ref b := g1
    subst g1
    obtain ⟨h1, h⟩ := e_cond h e_ff
    have h1 := Nat.eq_of_beq_eq_true h1
    obtain ⟨s1, s2, s3, s4⟩ := X.2.2.1 h1
    exact g_slen h1 hm (IH _ _ _ _ _ _ _ _ _ _ _ h K ce sl ρ ρr lv (_ :: t0) ws X hl ⟨⟨by omega, _, rfl, by show (Int32.ofNat LS).toInt = ρ 1 + 0; rw [s2, i_ofNat (by omega)]; omega⟩, g2⟩)
  · cases h
theorem vp_of {z : Int32} {n : Nat} {lo hi : Int} (h1 : lo ≤ z.toInt) (h2 : z.toInt ≤ hi) (h3 : 0 ≤ lo) (h4 : hi + 1 ≤ (n : Int)) : vp_in z n ∧ z.toNatClampNeg < n ∧ ((z.toNatClampNeg : Nat) : Int) = z.toInt := by
  rw [vp_in_iff, i_clamp]
  omega
theorem k_ald {kind : Nat → Bool} {i : Instr} (hk : ∀ n, kind n = true → n < 3)
    (hg : ∀ {mi : eM} {pc : Nat} {lv : List (Nat × Value)} {st : List Value} {ws : va_W} {ce sl : Nat} {K : gK} {o a t0 n kd : Nat} {cA : ClassId} {f : Nat → Int32} {z : Int32}, (pc, i, 1) ∈ mi.2.2.2.2.2.2 → kind kd = true → ws[o]? = some (a, .inl (cA, n, .inl f)) → tys[t0]? = some (cA, ekt kd) → vp_in z n → gG b base LS xs D cl tys Tb NF l CN mi (pc + 1) lv (.int (f z.toNatClampNeg) :: st) ws ce sl K → gG b base LS xs D cl tys Tb NF l CN mi pc lv (.int z :: .ref a :: st) ws ce sl K)
    (hsc : kind 0 = true → i = .iaload) : aHs b base LS xs D cl tys Tb NF l CN so ad ST JL md ws0 (kAld ST kind) i 1 := by
  intro ih IH mi xt pc cd ls st A ac as sp k h K ce sl ρ ρr lv stA ws hm X hl hs
  unfold kAld at h
  split at h
  · rename_i x r rest
    obtain ⟨iA, t1, rfl, g0, g1⟩ := sRel_cons hs
    obtain ⟨xA, t0, rfl, g1, g2⟩ := sRel_cons g1
    obtain ⟨q0, z, rfl, e0⟩ := g0
    split at h
    · rename_i t ht
      split at h
      · rename_i ob hob
        obtain ⟨hkd, h⟩ := e_cond h e_ff
        have hR := X.2.2.2.1
        obtain ⟨a, e, rfl, w1, w2, w3⟩ := r_at hR g1 ht
        obtain ⟨lo, hi, h, b1, b2⟩ := abd_ok hR.1 h
        obtain ⟨hb, h⟩ := e_cond h e_ff
        rw [Bool.and_eq_true, ile_iff, ile_iff] at hb
        rw [← e0] at b1 b2
        obtain ⟨v1, v2, v3⟩ := vp_of (n := ob.2.1) b1 b2 hb.1 hb.2
        unfold eOk at w3
        rw [hob] at w3
        have h3 := hk _ hkd
        rcases w3 with ⟨-, cA, f, t2, rfl, q1, q2⟩ | ⟨q1, -⟩ | ⟨q1, -⟩
        · refine hg hm hkd w1 q1 v1 ?_
          have hgv : gcv ws (ρr r) z.toNatClampNeg = some (.int (f z.toNatClampNeg)) := by rw [gcv_at w1, gcl_int v2]
          split at h
          · rename_i v hv
            obtain ⟨tt, htt⟩ := amf_mem hv
            obtain ⟨-, -, -, j, y, y1, y2, y3⟩ := hR.2.2.2 _ htt
            dsimp only at y1 y2 y3
            have ej : j = z.toNatClampNeg := by omega
            subst ej
            rw [hgv] at y2
            have y2 := Option.some.inj y2
            subst y2
            exact IH _ _ _ _ _ _ _ _ _ _ _ h K ce sl ρ ρr lv _ ws X hl ⟨y3, g2⟩
          · split at h
            · rename_i w hw
              obtain ⟨hrg, h⟩ := e_cond h e_ff
              obtain ⟨u, u1, u2, u3⟩ := q2 _ v2
              obtain ⟨u4, u5⟩ := argj_ok hw z.toNatClampNeg u (by omega) (by omega) u1
              obtain ⟨v, A2, ρ2, ρr2, y1, y2, y3, y4⟩ := anew_0 hR h (z := f z.toNatClampNeg) (by omega) (by omega) (by omega)
              have hr2 : ρr2 r = ρr r := y2.2.2.2 r g1.1
              obtain ⟨A3, z1, z2, z3, z4⟩ := aput_ok y3 y1 ⟨Nat.lt_of_lt_of_le g1.1 y2.2.1, by show so[ρr2 r]? = _; rw [hr2]; exact w2, Nat.lt_of_lt_of_le q0 y2.1, z.toNatClampNeg, _, by show _ = ρ2 x.1 + x.2; rw [y2.2.2.1 _ q0]; omega, by show gcv ws (ρr2 r) _ = _; rw [hr2]; exact hgv, y4⟩
              have u := y2.trans (aUp.same (ρ := ρ2) (ρr := ρr2) z2 z3)
              exact IH _ _ _ _ _ _ _ _ _ _ _ z1 K ce sl ρ2 ρr2 lv _ ws (aCx_up X u z4) (lRel_up u.1 u.2.1 u.2.2 hl) ⟨by rw [z2, z3]; exact y4, sRel_up u.1 u.2.1 u.2.2 g2⟩
            · cases h
        · omega
        · omega
      · cases h
    · cases h
  · rename_i x rest
    obtain ⟨kx, cx⟩ := x
    obtain ⟨iA, t1, rfl, g0, gA⟩ := sRel_cons hs
    obtain ⟨xA, t0, rfl, g1, g2⟩ := sRel_cons gA
    obtain ⟨q0, z, rfl, e0⟩ := g0
    have g1 : xA = .ref b := g1
    subst g1
    obtain ⟨h1, h8⟩ := e_cond h e_ff
    simp only [Bool.and_eq_true] at h1
    obtain ⟨c1, c2, c3, c4, c5, c6⟩ := h1
    have hR := X.2.2.2.1
    obtain ⟨lo, hi, h8, b1, b2⟩ := abd_ok hR.1 h8
    obtain ⟨hb, h9⟩ := e_cond h8 e_ff
    rw [ile_iff] at hb c4 c5
    have c1 := Nat.eq_of_beq_eq_true c1
    have c3 := Nat.eq_of_beq_eq_true c3
    have hi0 := hsc c2
    subst hi0
    obtain ⟨s1, s2, s3, s4⟩ := X.2.2.1 c1
    have hage := age_ok hR.1 _ _ _ c6
    dsimp only at c3 c4 c5 hage e0 b1 b2 h9
    subst c3
    rw [s2] at hage
    obtain ⟨v1, v2, v3⟩ := vp_of (z := z) (n := LS) (lo := z.toInt) (hi := z.toInt) (Int.le_refl _) (Int.le_refl _) (by omega) (by omega)
    refine g_sld c1 hm v1 (IH _ _ _ _ _ _ _ _ _ _ _ h9 K ce sl ρ ρr lv _ ws X hl ⟨⟨by show 3 + cx.toNat < A.1; omega, _, rfl, ?_⟩, g2⟩)
    show (xs z.toNatClampNeg).toInt = ρ (3 + cx.toNat) + 0
    rw [s4 cx.toNat (by omega), i_clamp, Int.toNat_of_nonneg c4, e0]
    omega
  · cases h
theorem k_iald : aHs b base LS xs D cl tys Tb NF l CN so ad ST JL md ws0 (kAld ST ekI) .iaload 1 := k_ald (fun n h => by have := Nat.eq_of_beq_eq_true (show Nat.beq n 0 = true from h); omega) (fun {mi pc lv st ws ce sl K o a t0 n kd cA f z} hm hk he ht hin h => by
  have hk := Nat.eq_of_beq_eq_true (show Nat.beq kd 0 = true from hk)
  subst hk
  exact g_iald hm he ht hin h) (fun _ => rfl)
theorem k_bald : aHs b base LS xs D cl tys Tb NF l CN so ad ST JL md ws0 (kAld ST ekB) .baload 1 := k_ald (fun n h => by
  have h : (Nat.beq n 1 || Nat.beq n 2) = true := h
  rw [Bool.or_eq_true] at h
  rcases h with h | h
  · have := Nat.eq_of_beq_eq_true h; omega
  · have := Nat.eq_of_beq_eq_true h; omega) (fun {mi pc lv st ws ce sl K o a t0 n kd cA f z} hm hk he ht hin h => by
  have hk : (Nat.beq kd 1 || Nat.beq kd 2) = true := hk
  rw [Bool.or_eq_true] at hk
  rcases hk with hk | hk
  · have hk := Nat.eq_of_beq_eq_true hk
    subst hk
    exact g_bald hm he (Or.inl ht) hin h
  · have hk := Nat.eq_of_beq_eq_true hk
    subst hk
    exact g_bald hm he (Or.inr ht) hin h) (fun h => by cases h)
theorem k_aald : aHs b base LS xs D cl tys Tb NF l CN so ad ST JL md ws0 (kAald ST) .aaload 1 := by
  intro ih IH mi xt pc cd ls st A ac as sp k h K ce sl ρ ρr lv stA ws hm X hl hs
  unfold kAald at h
  split at h
  · rename_i x r rest
    obtain ⟨iA, t1, rfl, g0, g1⟩ := sRel_cons hs
    obtain ⟨xA, t0, rfl, g1, g2⟩ := sRel_cons g1
    obtain ⟨q0, z, rfl, e0⟩ := g0
    split at h
    · rename_i t ht
      split at h
      · rename_i ob hob
        obtain ⟨hkd, h⟩ := e_cond h e_ff
        have hkd := Nat.eq_of_beq_eq_true hkd
        have hR := X.2.2.2.1
        obtain ⟨a, e, rfl, w1, w2, w3⟩ := r_at hR g1 ht
        obtain ⟨lo, hi, h, b1, b2⟩ := abd_ok hR.1 h
        obtain ⟨hb, h⟩ := e_cond h e_ff
        rw [Bool.and_eq_true, ile_iff, ile_iff] at hb
        rw [← e0] at b1 b2
        obtain ⟨v1, v2, v3⟩ := vp_of (n := ob.2.1) b1 b2 hb.1 hb.2
        unfold eOk at w3
        rw [hob] at w3
        rcases w3 with ⟨q1, -⟩ | ⟨q1, -⟩ | ⟨-, cA, C, f, t2, rfl, q1, q2⟩
        · omega
        · omega
        · obtain ⟨o2, a2, p1, p2, p3⟩ := q2 _ v2
          refine g_aald hm w1 q1 v1 ?_
          rw [p3]
          obtain ⟨A2, ρr2, y1, y2, y3, y4, -, -⟩ := anewr_ok hR h p1 p2
          exact IH _ _ _ _ _ _ _ _ _ _ _ y1 K ce sl ρ ρr2 lv _ ws (aCx_up X y2 y3) (lRel_up y2.1 y2.2.1 y2.2.2 hl) ⟨y4, sRel_up y2.1 y2.2.1 y2.2.2 g2⟩
      · cases h
    · cases h
  · cases h
theorem k_lald : aHs b base LS xs D cl tys Tb NF l CN so ad ST JL md ws0 (kLald ST) .laload 1 := by
  intro ih IH mi xt pc cd ls st A ac as sp k h K ce sl ρ ρr lv stA ws hm X hl hs
  unfold kLald at h
  split at h
  · rename_i x r rest
    obtain ⟨iA, t1, rfl, g0, g1⟩ := sRel_cons hs
    obtain ⟨xA, t0, rfl, g1, g2⟩ := sRel_cons g1
    obtain ⟨q0, z, rfl, e0⟩ := g0
    split at h
    · rename_i t ht
      split at h
      · rename_i ob hob
        obtain ⟨hkd, h⟩ := e_cond h e_ff
        have hkd := Nat.eq_of_beq_eq_true hkd
        have hR := X.2.2.2.1
        obtain ⟨a, e, rfl, w1, w2, w3⟩ := r_at hR g1 ht
        obtain ⟨lo, hi, h, b1, b2⟩ := abd_ok hR.1 h
        obtain ⟨hb, h⟩ := e_cond h e_ff
        rw [Bool.and_eq_true, ile_iff, ile_iff] at hb
        rw [← e0] at b1 b2
        obtain ⟨v1, v2, v3⟩ := vp_of (n := ob.2.1) b1 b2 hb.1 hb.2
        unfold eOk at w3
        rw [hob] at w3
        rcases w3 with ⟨q1, -⟩ | ⟨-, cA, f, t2, rfl, q1⟩ | ⟨q1, -⟩
        · omega
        · exact g_lald hm w1 q1 v1 (fun u => IH _ _ _ _ _ _ _ _ _ _ _ h K ce sl ρ ρr lv _ ws X hl ⟨⟨u, rfl⟩, g2⟩)
        · omega
      · cases h
    · cases h
  · cases h
theorem j_kind (hW : jWf ST so JL) {t : Nat} {ob : Nat × Nat × List (Nat × Int × Int) × Nat} (hob : ST t = some (.inr ob)) (h : ¬ ob.1 = 0) : ∀ J ∈ JL, ¬ J.1 = t ∧ ∀ q ∈ J.2.2.1, ¬ q.2.1 = t := by
  intro J hJ
  obtain ⟨⟨u, w1, -⟩, -, w3⟩ := hW J hJ
  refine ⟨fun q => ?_, fun q hq e => ?_⟩
  · rw [q, hob] at w1
    cases w1
  · obtain ⟨⟨u, w4, w5⟩, -⟩ := w3 q hq
    rw [e, hob] at w4
    cases w4
    exact h w5
theorem axw_ok {A : aA} {ρ : Nat → Int} {ρr : Nat → Nat} {ws : va_W} (hR : aRel b so ad tys ST JL ρ ρr md ws0 A ws) {r t a n : Nat} {cA : ClassId} {f : Nat → Int32} (hw : ws[ρr r]? = some (a, .inl (cA, n, .inl f))) (ht : so[ρr r]? = some t) (hx : xP t f) {x v : Nat × Int} {z zv : Int32} {lo hi : Int} (e0 : z.toInt = ρ x.1 + x.2) (ev : zv.toInt = ρ v.1 + v.2) (b1 : lo ≤ z.toInt) (b2 : z.toInt ≤ hi) (v3 : ((z.toNatClampNeg : Nat) : Int) = z.toInt) (h : axw A r t x v lo hi = true) : xP t (upd f z.toNatClampNeg zv) := by
  unfold axw at h
  cases hf : xfree t with
  | true => exact xP_free hf _
  | false =>
    rw [hf, cond_false] at h
    obtain ⟨h52, h⟩ := e_cond h e_ff
    have h52 := Nat.eq_of_beq_eq_true h52
    subst h52
    refine ⟨fun _ => ?_, fun q => by cases q⟩
    have hx := hx.1 rfl
    cases c1 : ile (hi + 1) 221 with
    | true =>
      rw [ile_iff] at c1
      exact xVP_same (fun j hj => if_neg (by omega)) hx
    | false =>
      rw [c1, cond_false] at h
      cases c2 : (Nat.beq x.1 0 && ieq x.2 221) && (Nat.beq v.1 0 && ieq v.2 0) with
      | true =>
        simp only [Bool.and_eq_true] at c2
        obtain ⟨⟨d1, d2⟩, d3, d4⟩ := c2
        rw [ieq_iff] at d2 d4
        rw [Nat.eq_of_beq_eq_true d1, d2, hR.1.2.2.1] at e0
        rw [Nat.eq_of_beq_eq_true d3, d4, hR.1.2.2.1] at ev
        have ez : z.toNatClampNeg = 221 := by omega
        refine xVP_0 ?_
        rw [ez, show upd f 221 zv 221 = zv from if_pos rfl]
        omega
      | false =>
        rw [c2, cond_false] at h
        cases hm : amf A.2.2.2.2 r (0, Int.ofNat 221) with
        | none => rw [hm] at h; cases h
        | some w =>
          rw [hm] at h
          rcases w with y | u
          · have h9 : ((Nat.beq y.1 0 && ieq y.2 0) && ile 222 lo) = true := h
            rw [Bool.and_eq_true, Bool.and_eq_true, ieq_iff, ile_iff] at h9
            obtain ⟨⟨d1, d2⟩, d3⟩ := h9
            obtain ⟨xx, y1, y2⟩ := m_fld hR hm
            obtain ⟨z0, rfl, e5⟩ := vRel_int y2
            rw [Nat.eq_of_beq_eq_true d1, d2, hR.1.2.2.1] at e5
            rw [gcv_at hw] at y1
            have y1 : (if 221 < n then some (Value.int (f 221)) else none) = some (.int z0) := y1
            have hfz : f 221 = z0 := by
              split at y1
              · have := Option.some.inj y1
                injection this
              · cases y1
            refine xVP_0 ?_
            rw [show upd f z.toNatClampNeg zv 221 = f 221 from if_neg (by omega), hfz]
            omega
          · cases h
theorem k_iast (hW : jWf ST so JL) : aHs b base LS xs D cl tys Tb NF l CN so ad ST JL md ws0 (kIast ST JL md) .iastore 1 := by
  intro ih IH mi xt pc cd ls st A ac as sp k h K ce sl ρ ρr lv stA ws hm X hl hs
  unfold kIast at h
  split at h
  · rename_i v x r rest
    obtain ⟨vA, t2, rfl, gv, gA⟩ := sRel_cons hs
    obtain ⟨iA, t1, rfl, g0, gB⟩ := sRel_cons gA
    obtain ⟨xA, t0, rfl, g1, g2⟩ := sRel_cons gB
    obtain ⟨q0, z, rfl, e0⟩ := g0
    obtain ⟨qv, zv, rfl, ev⟩ := gv
    split at h
    · rename_i t ht
      split at h
      · rename_i ob hob
        obtain ⟨hkd, h⟩ := e_cond h e_ff
        have hkd := Nat.eq_of_beq_eq_true hkd
        have hR := X.2.2.2.1
        obtain ⟨a, e, rfl, w1, w2, w3⟩ := r_at hR g1 ht
        obtain ⟨lo, hi, h, b1, b2⟩ := abd_ok hR.1 h
        obtain ⟨hb, h⟩ := e_cond h e_ff
        simp only [Bool.and_eq_true] at hb
        obtain ⟨⟨hb1, hb2⟩, hmd, ⟨hxw, hjw⟩, hval⟩ := hb
        rw [ile_iff] at hb1 hb2
        rw [← e0] at b1 b2
        obtain ⟨v1, v2, v3⟩ := vp_of (n := ob.2.1) b1 b2 hb1 hb2
        obtain ⟨l2, h2, hval, b3, b4⟩ := abd_ok hR.1 hval
        rw [← ev] at b3 b4
        have hob' := hob
        unfold eOk at w3
        rw [hob] at w3
        rcases w3 with ⟨q3, cA, f, t3, rfl, q1, q2⟩ | ⟨q1, -⟩ | ⟨q1, -⟩
        · have hE : eOk so ad tys ST t (.inl (cA, ob.2.1, .inl (upd f z.toNatClampNeg zv))) := by
            unfold eOk
            rw [hob]
            refine Or.inl ⟨q3, cA, _, t3, rfl, q1, fun j hj => ?_⟩
            obtain ⟨u, u1, u2, u3⟩ := q2 j hj
            refine ⟨u, u1, ?_⟩
            by_cases hji : j = z.toNatClampNeg
            · rw [show upd f z.toNatClampNeg zv j = zv from if_pos hji]
              obtain ⟨u4, u5⟩ := argw_ok hval j u (by omega) (by omega) u1
              omega
            · rw [show upd f z.toNatClampNeg zv j = f j from if_neg hji]
              exact ⟨u2, u3⟩
          have hix : ρ x.1 + x.2 = ((z.toNatClampNeg : Nat) : Int) := by omega
          have hX : xE t (.inl (cA, ob.2.1, .inl (upd f z.toNatClampNeg zv))) := by
            intro cA2 n2 f2 hf2
            have hf2 : upd f z.toNatClampNeg zv = f2 := by
              injection hf2 with hf2
              injection hf2 with _ hf2
              injection hf2 with _ hf2
              injection hf2
            subst hf2
            exact axw_ok hR w1 w2 (x_at hR.2.2.1.1 w1 w2 _ _ _ rfl) e0 ev b1 b2 v3 hxw
          have hJ := j_arr hR hW w1 w2 ⟨ob, hob⟩ (fun i hi => gcl_upd (x := zv) hi) hix hjw
          obtain ⟨m1, m2, m3, m4, m5⟩ := amdk_ok hmd
          obtain ⟨A2, y1, y2, y3, y4⟩ := a_wr hR w1 w2 hE hX (fun i hi => gcl_upd hi) hJ ⟨m1, m2, m3, by omega, by omega⟩ hix h
          have hgv : gcv (ws.set (ρr r) (a, .inl (cA, ob.2.1, .inl (upd f z.toNatClampNeg zv)))) (ρr r) z.toNatClampNeg = some (.int zv) := by
            rw [gcv_set w1, if_pos rfl, gcl_int v2, show upd f z.toNatClampNeg zv z.toNatClampNeg = zv from if_pos rfl]
          obtain ⟨A3, z1, z2, z3, z4⟩ := aput_ok y4 y1 ⟨by show r < _; rw [y3]; exact g1.1, w2, by show x.1 < _; rw [y2]; exact q0, z.toNatClampNeg, _, hix.symm, hgv, by rw [y2, y3]; exact ⟨qv, zv, rfl, ev⟩⟩
          have u : aUp A ρ ρr A3 ρ ρr := aUp.same (by rw [z2, y2]) (by rw [z3, y3])
          have q1 : tys[t3]? = some (cA, .int) := by rw [hkd] at q1; exact q1
          exact g_iast hm w1 q1 v1 (IH _ _ _ _ _ _ _ _ _ _ _ z1 K ce sl ρ ρr lv _ _ (aCx_up X u z4) (lRel_up u.1 u.2.1 u.2.2 hl) (sRel_up u.1 u.2.1 u.2.2 g2))
        · omega
        · omega
      · cases h
    · cases h
  · cases h
theorem i_nb (x : Int32) : -128 ≤ (vp_nar .byte x).toInt ∧ (vp_nar .byte x).toInt ≤ 127 := i_i2b x
theorem i_nz (x : Int32) (h : x.toInt = 0 ∨ x.toInt = 1) : vp_nar .boolean x = x := by
  rcases h with h | h
  · rw [show x = 0 from Int32.toInt_inj.mp h]; rfl
  · rw [show x = 1 from Int32.toInt_inj.mp h]; rfl
theorem k_bast (hW : jWf ST so JL) : aHs b base LS xs D cl tys Tb NF l CN so ad ST JL md ws0 (kBast ST md) .bastore 1 := by
  intro ih IH mi xt pc cd ls st A ac as sp k h K ce sl ρ ρr lv stA ws hm X hl hs
  unfold kBast at h
  split at h
  · rename_i v x r rest
    obtain ⟨vA, t2, rfl, gv, gA⟩ := sRel_cons hs
    obtain ⟨iA, t1, rfl, g0, gB⟩ := sRel_cons gA
    obtain ⟨xA, t0, rfl, g1, g2⟩ := sRel_cons gB
    obtain ⟨q0, z, rfl, e0⟩ := g0
    obtain ⟨qv, zv, rfl, ev⟩ := gv
    split at h
    · rename_i t ht
      split at h
      · rename_i ob hob
        have hR := X.2.2.2.1
        obtain ⟨a, e, rfl, w1, w2, w3⟩ := r_at hR g1 ht
        obtain ⟨lo, hi, h, b1, b2⟩ := abd_ok hR.1 h
        obtain ⟨hb, h⟩ := e_cond h e_ff
        simp only [Bool.and_eq_true] at hb
        obtain ⟨⟨hb1, hb2⟩, hmd⟩ := hb
        rw [ile_iff] at hb1 hb2
        rw [← e0] at b1 b2
        obtain ⟨v1, v2, v3⟩ := vp_of (n := ob.2.1) b1 b2 hb1 hb2
        obtain ⟨m1, m2, m3, m4, m5⟩ := amdk_ok hmd
        have hix : ρ x.1 + x.2 = ((z.toNatClampNeg : Nat) : Int) := by omega
        unfold eOk at w3
        rw [hob] at w3
        split at h
        · rename_i hkd
          obtain ⟨hval, h⟩ := e_cond h e_ff
          rw [Bool.and_eq_true] at hval
          obtain ⟨hxf, hval⟩ := hval
          rcases w3 with ⟨q3, cA, f, t3, rfl, q1, q2⟩ | ⟨q1, -⟩ | ⟨q1, -⟩
          · have hn := i_nb zv
            have hE : eOk so ad tys ST t (.inl (cA, ob.2.1, .inl (upd f z.toNatClampNeg (vp_nar .byte zv)))) := by
              unfold eOk
              rw [hob]
              refine Or.inl ⟨q3, cA, _, t3, rfl, q1, fun j hj => ?_⟩
              obtain ⟨u, u1, u2, u3⟩ := q2 j hj
              refine ⟨u, u1, ?_⟩
              by_cases hji : j = z.toNatClampNeg
              · rw [show upd f z.toNatClampNeg (vp_nar .byte zv) j = vp_nar .byte zv from if_pos hji]
                obtain ⟨u4, u5⟩ := argw_ok hval j u (by omega) (by omega) u1
                have e1 : (Int.negSucc 127 : Int) = -128 := rfl
                have e2 : (Int.ofNat 127 : Int) = 127 := rfl
                omega
              · rw [show upd f z.toNatClampNeg (vp_nar .byte zv) j = f j from if_neg hji]
                exact ⟨u2, u3⟩
            obtain ⟨A2, y1, y2, y3, y4⟩ := a_wr hR w1 w2 hE (fun _ _ f _ => xP_free hxf f) (fun i hi => gcl_upd hi) (j_oth hR.2.2.1.2.1 w1 w2 (j_kind hW hob (by omega))) ⟨m1, m2, m3, by omega, by omega⟩ hix h
            have u : aUp A ρ ρr A2 ρ ρr := aUp.same y2 y3
            have q1 : tys[t3]? = some (cA, .byte) := by rw [hkd] at q1; exact q1
            exact g_bast hm w1 q1 (Or.inl rfl) v1 (IH _ _ _ _ _ _ _ _ _ _ _ y1 K ce sl ρ ρr lv _ _ (aCx_up X u y4) (lRel_up u.1 u.2.1 u.2.2 hl) (sRel_up u.1 u.2.1 u.2.2 g2))
          · omega
          · omega
        · rename_i hkd
          obtain ⟨hval, h⟩ := e_cond h e_ff
          obtain ⟨l2, h2, hval, b3, b4⟩ := abd_ok hR.1 hval
          rw [Bool.and_eq_true, Bool.and_eq_true, Bool.and_eq_true, ile_iff, ile_iff] at hval
          obtain ⟨hval1, hxf, hval2⟩ := hval
          rw [← ev] at b3 b4
          have hnz := i_nz zv (by omega)
          rcases w3 with ⟨q3, cA, f, t3, rfl, q1, q2⟩ | ⟨q1, -⟩ | ⟨q1, -⟩
          · have hE : eOk so ad tys ST t (.inl (cA, ob.2.1, .inl (upd f z.toNatClampNeg (vp_nar .boolean zv)))) := by
              unfold eOk
              rw [hob]
              refine Or.inl ⟨q3, cA, _, t3, rfl, q1, fun j hj => ?_⟩
              obtain ⟨u, u1, u2, u3⟩ := q2 j hj
              refine ⟨u, u1, ?_⟩
              by_cases hji : j = z.toNatClampNeg
              · rw [hnz, show upd f z.toNatClampNeg zv j = zv from if_pos hji]
                obtain ⟨u4, u5⟩ := argw_ok hval2 j u (by omega) (by omega) u1
                omega
              · rw [show upd f z.toNatClampNeg (vp_nar .boolean zv) j = f j from if_neg hji]
                exact ⟨u2, u3⟩
            obtain ⟨A2, y1, y2, y3, y4⟩ := a_wr hR w1 w2 hE (fun _ _ f _ => xP_free hxf f) (fun i hi => gcl_upd hi) (j_oth hR.2.2.1.2.1 w1 w2 (j_kind hW hob (by omega))) ⟨m1, m2, m3, by omega, by omega⟩ hix h
            have hgv : gcv (ws.set (ρr r) (a, .inl (cA, ob.2.1, .inl (upd f z.toNatClampNeg (vp_nar .boolean zv))))) (ρr r) z.toNatClampNeg = some (.int zv) := by
              rw [gcv_set w1, if_pos rfl, gcl_int v2, show upd f z.toNatClampNeg (vp_nar .boolean zv) z.toNatClampNeg = vp_nar .boolean zv from if_pos rfl, hnz]
            obtain ⟨A3, z1, z2, z3, z4⟩ := aput_ok y4 y1 ⟨by show r < _; rw [y3]; exact g1.1, w2, by show x.1 < _; rw [y2]; exact q0, z.toNatClampNeg, _, hix.symm, hgv, by rw [y2, y3]; exact ⟨qv, zv, rfl, ev⟩⟩
            have u : aUp A ρ ρr A3 ρ ρr := aUp.same (by rw [z2, y2]) (by rw [z3, y3])
            have q1 : tys[t3]? = some (cA, .boolean) := by rw [hkd] at q1; exact q1
            exact g_bast hm w1 q1 (Or.inr rfl) v1 (IH _ _ _ _ _ _ _ _ _ _ _ z1 K ce sl ρ ρr lv _ _ (aCx_up X u z4) (lRel_up u.1 u.2.1 u.2.2 hl) (sRel_up u.1 u.2.1 u.2.2 g2))
          · omega
          · omega
        · cases h
      · cases h
    · cases h
  · cases h
theorem k_last (hW : jWf ST so JL) : aHs b base LS xs D cl tys Tb NF l CN so ad ST JL md ws0 (kLast ST md) .lastore 1 := by
  intro ih IH mi xt pc cd ls st A ac as sp k h K ce sl ρ ρr lv stA ws hm X hl hs
  unfold kLast at h
  split at h
  · rename_i x r rest
    obtain ⟨vA, t2, rfl, ⟨zv, rfl⟩, gA⟩ := sRel_cons hs
    obtain ⟨iA, t1, rfl, g0, gB⟩ := sRel_cons gA
    obtain ⟨xA, t0, rfl, g1, g2⟩ := sRel_cons gB
    obtain ⟨q0, z, rfl, e0⟩ := g0
    split at h
    · rename_i t ht
      split at h
      · rename_i ob hob
        obtain ⟨hkd, h⟩ := e_cond h e_ff
        have hkd := Nat.eq_of_beq_eq_true hkd
        have hR := X.2.2.2.1
        obtain ⟨a, e, rfl, w1, w2, w3⟩ := r_at hR g1 ht
        obtain ⟨lo, hi, h, b1, b2⟩ := abd_ok hR.1 h
        obtain ⟨hb, h⟩ := e_cond h e_ff
        simp only [Bool.and_eq_true] at hb
        obtain ⟨⟨hb1, hb2⟩, hmd⟩ := hb
        rw [ile_iff] at hb1 hb2
        rw [← e0] at b1 b2
        obtain ⟨v1, v2, v3⟩ := vp_of (n := ob.2.1) b1 b2 hb1 hb2
        obtain ⟨m1, m2, m3, m4, m5⟩ := amdk_ok hmd
        have hix : ρ x.1 + x.2 = ((z.toNatClampNeg : Nat) : Int) := by omega
        unfold eOk at w3
        rw [hob] at w3
        rcases w3 with ⟨q1, -⟩ | ⟨q3, cA, f, t3, rfl, q1⟩ | ⟨q1, -⟩
        · omega
        · have hE : eOk so ad tys ST t (.inl (cA, ob.2.1, .inr (.inl (vp_updL f z.toNatClampNeg zv)))) := by
            unfold eOk
            rw [hob]
            exact Or.inr (Or.inl ⟨q3, cA, _, t3, rfl, q1⟩)
          obtain ⟨A2, y1, y2, y3, y4⟩ := a_wr hR w1 w2 hE (fun _ _ _ q => (nomatch q)) (fun i hi => gcl_updL hi) (j_oth hR.2.2.1.2.1 w1 w2 (j_kind hW hob (by omega))) ⟨m1, m2, m3, by omega, by omega⟩ hix h
          have u : aUp A ρ ρr A2 ρ ρr := aUp.same y2 y3
          exact g_last hm w1 q1 v1 (IH _ _ _ _ _ _ _ _ _ _ _ y1 K ce sl ρ ρr lv _ _ (aCx_up X u y4) (lRel_up u.1 u.2.1 u.2.2 hl) (sRel_up u.1 u.2.1 u.2.2 g2))
        · omega
      · cases h
    · cases h
  · cases h
theorem k_ret : aHs b base LS xs D cl tys Tb NF l CN so ad ST JL md ws0 kRet .ireturn 1 := by
  intro ih IH mi xt pc cd ls st A ac as sp k h K ce sl ρ ρr lv stA ws hm X hl hs
  unfold kRet at h
  split at h
  · rename_i x
    obtain ⟨vA, t, rfl, g1, g2⟩ := sRel_cons hs
    have ht := sRel_nil g2
    subst ht
    obtain ⟨h1, hh⟩ := e_cond h e_ff
    rw [Bool.and_eq_true, Bool.and_eq_true] at h1
    have e1 := Nat.eq_of_beq_eq_true h1.1.1
    have e2 := Nat.eq_of_beq_eq_true h1.1.2
    subst e1; subst e2
    obtain ⟨z, rfl, e⟩ := vRel_int g1
    have hR := X.2.2.2.1
    obtain ⟨c1, c2⟩ := X.2.1
    refine g_ireturn hm ?_ (by omega) (by omega) (X.2.2.2.2.2 _ A hh ρ ρr ws _ aUp.refl hR g1)
    have h1 := h1.2
    rw [Bool.or_eq_true, Bool.and_eq_true, Bool.or_eq_true] at h1
    rcases h1 with q | ⟨q, q2⟩
    · exact Or.inl (Nat.eq_of_beq_eq_true q)
    · obtain ⟨lo, hi, h3, b1, b2⟩ := abd_ok hR.1 q2
      rw [Bool.and_eq_true, ile_iff, ile_iff] at h3
      refine Or.inr ⟨q.elim (fun q => Or.inl (Nat.eq_of_beq_eq_true q)) (fun q => Or.inr (Nat.eq_of_beq_eq_true q)), ?_⟩
      have hz : z.toInt = 0 ∨ z.toInt = 1 := by omega
      rcases hz with hz | hz
      · exact Or.inl (Int32.toInt_inj.mp hz)
      · exact Or.inr (Int32.toInt_inj.mp hz)
  · cases h
theorem k_retr : aHs b base LS xs D cl tys Tb NF l CN so ad ST JL md ws0 kRetr .areturn 1 := by
  intro ih IH mi xt pc cd ls st A ac as sp k h K ce sl ρ ρr lv stA ws hm X hl hs
  unfold kRetr at h
  split at h
  · rename_i r
    obtain ⟨vA, t, rfl, g1, g2⟩ := sRel_cons hs
    have ht := sRel_nil g2
    subst ht
    obtain ⟨h1, hh⟩ := e_cond h e_ff
    rw [Bool.and_eq_true, Bool.and_eq_true] at h1
    have e1 := Nat.eq_of_beq_eq_true h1.1.1
    have e2 := Nat.eq_of_beq_eq_true h1.1.2
    subst e1; subst e2
    obtain ⟨c1, c2⟩ := X.2.1
    have hk := X.2.2.2.2.2 _ A hh ρ ρr ws (some vA) aUp.refl X.2.2.2.1 g1
    obtain ⟨q1, a, q2, rfl⟩ := g1
    exact g_areturn hm (Nat.eq_of_beq_eq_true h1.2) (by omega) (by omega) hk
  · cases h
theorem k_retl : aHs b base LS xs D cl tys Tb NF l CN so ad ST JL md ws0 kRetl .lreturn 1 := by
  intro ih IH mi xt pc cd ls st A ac as sp k h K ce sl ρ ρr lv stA ws hm X hl hs
  unfold kRetl at h
  split at h
  · obtain ⟨vA, t, rfl, g1, g2⟩ := sRel_cons hs
    have ht := sRel_nil g2
    subst ht
    obtain ⟨h1, hh⟩ := e_cond h e_ff
    rw [Bool.and_eq_true, Bool.and_eq_true] at h1
    have e1 := Nat.eq_of_beq_eq_true h1.1.1
    have e2 := Nat.eq_of_beq_eq_true h1.1.2
    subst e1; subst e2
    obtain ⟨c1, c2⟩ := X.2.1
    have hk := X.2.2.2.2.2 _ A hh ρ ρr ws (some vA) aUp.refl X.2.2.2.1 g1
    obtain ⟨z, rfl⟩ := g1
    exact g_lreturn hm (Nat.eq_of_beq_eq_true h1.2) (by omega) (by omega) hk
  · cases h
theorem k_retv : aHs b base LS xs D cl tys Tb NF l CN so ad ST JL md ws0 kRetv .return_ 1 := by
  intro ih IH mi xt pc cd ls st A ac as sp k h K ce sl ρ ρr lv stA ws hm X hl hs
  unfold kRetv at h
  split at h
  · have ht := sRel_nil hs
    subst ht
    obtain ⟨h1, hh⟩ := e_cond h e_ff
    rw [Bool.and_eq_true, Bool.and_eq_true] at h1
    have e1 := Nat.eq_of_beq_eq_true h1.1.1
    have e2 := Nat.eq_of_beq_eq_true h1.1.2
    subst e1; subst e2
    obtain ⟨c1, c2⟩ := X.2.1
    exact g_return hm (Nat.eq_of_beq_eq_true h1.2) (by omega) (by omega) (X.2.2.2.2.2 _ A hh ρ ρr ws none aUp.refl X.2.2.2.1 trivial)
  · cases h
end AI2
