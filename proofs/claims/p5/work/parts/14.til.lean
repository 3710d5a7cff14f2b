/-! THE CHECKER IS RIGHT: certificates opened, the whole. -/
section AI6
variable {b base LS : Nat} {xs : Nat → Int32} {D : va_G} {cl : List vw_C} {tys : List (ClassId × FieldType)} {Tb : List Cond} {NF : State → Prop} {l : Launch} {CN : Nat → String} {so ad : List Nat} {ST : Nat → Option aS} {JL : List aJ} {md : aMd} {ws0 : va_W}
theorem al_wf {A : aA} {ρ : Nat → Int} {ρr : Nat → Nat} {ls : List (Nat × aV)} {lv : List (Nat × Value)} (hl : lRel b ad ρ ρr A.1 A.2.2.1 ls lv) : ∀ q ∈ ls, vWf A.1 A.2.2.1 q.2 := fun q hq => by
  obtain ⟨x, -, g⟩ := hl q hq
  exact vRel_wf g
theorem as_wf {ρ : Nat → Int} {ρr : Nat → Nat} {n nr : Nat} : ∀ {st : List aV} {stA : List Value}, sRel b ad ρ ρr n nr st stA → ∀ v ∈ st, vWf n nr v
  | [], [], _ => fun v hv => absurd hv List.not_mem_nil
  | w :: st, x :: stA, h => fun v hv => by
    rcases List.mem_cons.mp hv with rfl | hv
    · exact vRel_wf h.1
    · exact as_wf h.2 v hv
  | [], _ :: _, h => absurd h id
  | _ :: _, [], h => absurd h id
/-- what is to be shown of the rest of a place's certificates and of its instruction -/
def aGo (b base LS : Nat) (xs : Nat → Int32) (D : va_G) (cl : List vw_C) (tys : List (ClassId × FieldType)) (Tb : List Cond) (NF : State → Prop) (l : Launch) (CN : Nat → String) (so ad : List Nat) (ST : Nat → Option aS) (JL : List aJ) (md : aMd) (ws0 : va_W) (mi : eM) (pc : Nat) (cd : List eI) (ac as : Nat) (k : aK) (go : List (Nat × aV) → List aV → aA → List aT → Bool) : Prop :=
  ∀ (ls : List (Nat × aV)) (st : List aV) (A : aA) (sp : List aT), go ls st A sp = true → aGl b base LS xs D cl tys Tb NF l CN so ad ST JL md ws0 mi pc cd ls st A ac as sp k
/-- how far a value is from the end of the ints -/
def meas (up : Bool) (z : Int32) : Nat := if up = true then (2147483647 - z.toInt).toNat else (z.toInt + 2147483648).toNat
theorem meas_lt {up : Bool} {z z2 : Int32} (h : if up = true then z.toInt < z2.toInt else z2.toInt < z.toInt) : meas up z2 < meas up z := by
  unfold meas
  have h1 := z.le_toInt
  have h2 := z.toInt_lt
  have h3 := z2.le_toInt
  have h4 := z2.toInt_lt
  cases up with
  | true =>
    rw [if_pos rfl] at h ⊢
    rw [if_pos rfl]
    omega
  | false =>
    rw [if_neg Bool.false_ne_true] at h ⊢
    rw [if_neg Bool.false_ne_true]
    omega
theorem meas_top (up : Bool) (z : Int32) : meas up z < 4294967296 := by
  unfold meas
  have h1 := z.le_toInt
  have h2 := z.toInt_lt
  split <;> omega
theorem atV_uniq {ρr : Nat → Nat} {lv : List (Nat × Value)} {ws : va_W} (hu : ∀ (j : Nat) (x y : Value), (j, x) ∈ lv → (j, y) ∈ lv → x = y) {w : Nat ⊕ (Nat × Nat)} {z z2 : Int32} (h1 : atV ρr lv ws w z) (h2 : atV ρr lv ws w z2) : z = z2 := by
  rcases w with j | q
  · have := hu j _ _ h1 h2
    injection this
  · have h1 : gcv ws (ρr q.1) q.2 = some (.int z) := h1
    have h2 : gcv ws (ρr q.1) q.2 = some (.int z2) := h2
    rw [h1] at h2
    have := Option.some.inj h2
    injection this
theorem o_L (hI : ∀ o o2 a : Nat, ad[o]? = some a → ad[o2]? = some a → o = o2) (hW : jWf ST so JL) {ih : aRn} (IH : aSn b base LS xs D cl tys Tb NF l CN so ad ST JL md ws0 ih) {mi : eM} {xt : aXt} {pc : Nat} {cd : List eI} {ac as : Nat} {k : aK} {c : aX} {go : List (Nat × aV) → List aV → aA → List aT → Bool} (hgo : aGo b base LS xs D cl tys Tb NF l CN so ad ST JL md ws0 mi pc cd ac as k go) :
    aGo b base LS xs D cl tys Tb NF l CN so ad ST JL md ws0 mi pc cd ac as k (fun ls st A sp => aopL ST JL ih mi xt pc c go ls st A ac as sp k) := by
  intro ls st A sp h K ce sl ρ ρr lv stA ws X hl hs
  have hR := X.2.2.2.1
  dsimp only at h
  unfold aopL at h
  split at h
  · rename_i w
    split at h
    · rename_i loc hloc
      split at h
      · rename_i x hx
        obtain ⟨-, z, -, hz⟩ := aat_ok hR hl hx
        obtain ⟨lo, hi, h, b1, b2⟩ := abd_ok hR.1 h
        obtain ⟨A2, g1, g2, g3, g4⟩ := acas_ok hR _ _ h b1 (by omega)
        have u : aUp A ρ ρr A2 ρ ρr := aCut.up g2 g3
        exact hgo _ _ _ _ g1 K ce sl ρ ρr lv stA ws (aCx_up X u g4) (lRel_up u.1 u.2.1 u.2.2 hl) (sRel_up u.1 u.2.1 u.2.2 hs)
      · cases h
    · cases h
  · rename_i kd j r5
    rw [eg_eq] at h
    split at h
    · rename_i J x hJ hx
      obtain ⟨y, -, g2⟩ := hl _ (al_mem hx)
      obtain ⟨A2, ρ2, ρr2, g3, g4, g5⟩ := ajrd_ok hR hI hW (List.mem_of_getElem? hJ) g2.1 h
      exact hgo _ _ _ _ g3 K ce sl ρ2 ρr2 lv stA ws (aCx_up X g4 g5) (lRel_up g4.1 g4.2.1 g4.2.2 hl) (sRel_up g4.1 g4.2.1 g4.2.2 hs)
    · cases h
  · rename_i kd t QL QS dr QC rk hn2 hn3
    obtain ⟨A0, h, z2, z3, z4, z5, z6, hR0⟩ := afor_ok hR hR.2.2.1 fRel_refl h
    obtain ⟨L, h, hL⟩ := aresL_ok (n := A.1) (nr := A.2.2.1) hR.1.1 (al_wf hl) h
    obtain ⟨S, h, hS⟩ := aresS_ok (n := A.1) (nr := A.2.2.1) hR.1.1 (as_wf hs) h
    obtain ⟨C, h, hC⟩ := aresC_ok hR h
    have hwf : ∀ (p0 : Nat) (rk2 : Option (Bool × (Nat × Int) × (Nat ⊕ (Nat × Nat)))) (ρ2 : Nat → Nat), (∀ r, r < A.2.2.1 → ρ2 r = ρr r) → tWf so ρ2 (p0, (ac, as), A0, L, S, C, rk2) := fun p0 rk2 ρ2 he => by
      refine ⟨fun q hq => ?_, fun R hR => ?_, fun q hq => ?_⟩
      · show rWf A0.1 A0.2.2.1 q.2
        rw [z2, z4]
        exact hL q hq
      · show rWf A0.1 A0.2.2.1 R
        rw [z2, z4]
        exact hS R hR
      · obtain ⟨g1, g2, g3⟩ := hC q hq
        refine ⟨?_, by rw [he _ g1]; exact g2, ?_⟩
        · show q.1 < A0.2.2.1
          rw [z4]; exact g1
        · show rWf A0.1 A0.2.2.1 q.2.2.2
          rw [z2, z4]; exact g3
    have hm0 : ∀ e ∈ A0.2.2.2.2, e.1 < A0.2.2.1 ∧ so[ρr e.1]? = some e.2.1 ∧ e.2.2.1.1 < A0.1 ∧ vWf A0.1 A0.2.2.1 e.2.2.2 := fun e he => by
      obtain ⟨g1, g2, g3, i, x, -, -, g6⟩ := hR0.2.2.2 e he
      exact ⟨g1, g2, g3, vRel_wf g6⟩
    split at h
    · rw [Bool.and_eq_true] at h
      obtain ⟨hchk, h⟩ := h
      cases rk with
      | none =>
        exfalso
        have ht := (chk_ok hR hl hs (hwf pc none ρr (fun _ _ => rfl)) hR0.1 hR0.2.1 hm0 hchk).2.2.1
        obtain ⟨ls2, st2, A4, ρ2, ρr2, hb, -⟩ := mk_ok (T := (pc, (ac, as), A0, L, S, C, none)) (body := fun ls2 st2 A4 => false) (hwf pc none ρr (fun _ _ => rfl)) ht h
        cases hb
      | some w =>
        cases hloc : aloc ls w.2 with
        | none =>
          exfalso
          have ht := (chk_ok hR hl hs (hwf pc none ρr (fun _ _ => rfl)) hR0.1 hR0.2.1 hm0 hchk).2.2.1
          dsimp only at h
          rw [hloc] at h
          obtain ⟨ls2, st2, A4, ρ2, ρr2, hb, -⟩ := mk_ok (T := (pc, (ac, as), A0, L, S, C, none)) (body := fun ls2 st2 A4 => false) (hwf pc none ρr (fun _ _ => rfl)) ht h
          cases hb
        | some loc =>
          dsimp only at h
          rw [hloc] at h
          dsimp only at h
          have hlr : ∀ r f, loc = .inr (r, f) → r < A.2.2.1 := fun r f hr => by
            unfold aloc at hloc
            split at hloc
            · rw [hr] at hloc
              cases hloc
            · split at hloc
              · rename_i r2 hr2
                rw [hr] at hloc
                cases hloc
                obtain ⟨y, -, g2⟩ := hl _ (al_mem hr2)
                exact g2.1
              · cases hloc
          have key : ∀ (m : Nat) (ρ2 : Nat → Int) (ρr2 : Nat → Nat) (lv2 : List (Nat × Value)) (st2 : List Value) (ws2 : va_W), aExt A.1 A.2.2.1 ρ ρr ρ2 ρr2 → tRel b so ad tys ST JL md ws0 ρ2 ρr2 (pc, (ac, as), A0, L, S, C, none) lv2 st2 ws2 → (∀ z : Int32, atV ρr2 lv2 ws2 loc z → meas w.1 z < m) → gG b base LS xs D cl tys Tb NF l CN mi pc lv2 st2 ws2 (ce + ac) (sl + as) K := by
            intro m
            induction m with
            | zero =>
              intro ρ2 ρr2 lv2 st2 ws2 he ht hz
              exfalso
              obtain ⟨ls3, st3, A4, ρ3, ρr3, hb, u3, hR3, hl3, hs3⟩ := mk_ok (T := (pc, (ac, as), A0, L, S, C, none)) (body := fun ls2 st2 A4 => match aat ls2 A4.2.2.2.2 loc with
                | some (.inl x) => go ls2 st2 A4 ((pc, (ac, as), A0, L, S, C, some (w.1, x, loc)) :: sp)
                | _ => false) (hwf pc none ρr2 he.2) ht h
              split at hb
              · rename_i x hx
                obtain ⟨-, z, hz1, -⟩ := aat_ok hR3 hl3 hx
                have hz2 : atV ρr2 lv2 ws2 loc z := by
                  rcases loc with j | ⟨r, f⟩
                  · exact hz1
                  · have hr := hlr r f rfl
                    have e : ρr3 r = ρr2 r := u3.2.2.2 r (by show r < A0.2.2.1; rw [z4]; exact hr)
                    have hz1 : gcv ws2 (ρr3 r) f = some (.int z) := hz1
                    rw [e] at hz1
                    exact hz1
                exact absurd (hz z hz2) (Nat.not_lt_zero _)
              · cases hb
            | succ m ihm =>
              intro ρ2 ρr2 lv2 st2 ws2 he ht hz
              obtain ⟨ls3, st3, A4, ρ3, ρr3, hb, u3, hR3, hl3, hs3⟩ := mk_ok (T := (pc, (ac, as), A0, L, S, C, none)) (body := fun ls2 st2 A4 => match aat ls2 A4.2.2.2.2 loc with
                | some (.inl x) => go ls2 st2 A4 ((pc, (ac, as), A0, L, S, C, some (w.1, x, loc)) :: sp)
                | _ => false) (hwf pc none ρr2 he.2) ht h
              have hu : aUp A ρ ρr A4 ρ3 ρr3 := by
                have e1 : A0.1 ≤ A4.1 := u3.1
                have e2 : A0.2.2.1 ≤ A4.2.2.1 := u3.2.1
                refine ⟨by rw [← z2]; exact e1, by rw [← z4]; exact e2, fun k hk => ?_, fun r hr => ?_⟩
                · rw [u3.2.2.1 k (by show k < A0.1; rw [z2]; exact hk), he.1 k hk]
                · rw [u3.2.2.2 r (by show r < A0.2.2.1; rw [z4]; exact hr), he.2 r hr]
              split at hb
              · rename_i x hx
                obtain ⟨hxn, z, hz1, hze⟩ := aat_ok hR3 hl3 hx
                have hz2 : atV ρr2 lv2 ws2 loc z := by
                  rcases loc with j | ⟨r, f⟩
                  · exact hz1
                  · have hr := hlr r f rfl
                    have e : ρr3 r = ρr2 r := u3.2.2.2 r (by show r < A0.2.2.1; rw [z4]; exact hr)
                    have hz1 : gcv ws2 (ρr3 r) f = some (.int z) := hz1
                    rw [e] at hz1
                    exact hz1
                have hmz := hz z hz2
                have X3 := aCx_up X hu hR3
                obtain ⟨x1, x2, x3, x4, x5, x6⟩ := X3
                refine hgo _ _ _ _ hb K ce sl ρ3 ρr3 lv2 st2 ws2 ⟨x1, x2, x3, x4, ?_, x6⟩ hl3 hs3
                intro T hT
                rcases List.mem_cons.mp hT with rfl | hT
                · have hext : ∀ k, k < A0.1 → ρ3 k = ρ k := fun k hk => hu.2.2.1 k (by rw [← z2]; exact hk)
                  have hextr : ∀ r, r < A0.2.2.1 → ρr3 r = ρr r := fun r hr => hu.2.2.2 r (by rw [← z4]; exact hr)
                  refine ⟨hwf pc _ ρr3 hu.2.2.2, cSat_ext hext hR0.1, rSat_ext hextr hR0.2.1, fun e he => ?_, u3.1, u3.2.1, fun q hq => ?_, fun ρ4 ρr4 lv4 st4 ws4 he4 ht4 hk4 => ?_⟩
                  · obtain ⟨g1, g2, g3, g4⟩ := hm0 e he
                    exact ⟨g1, by rw [hextr _ g1]; exact g2, g3, g4⟩
                  · cases hq
                    exact hxn
                  · refine gG_uniq (fun huq => ?_)
                    obtain ⟨z4', k1, k2⟩ := hk4
                    dsimp only at k1 k2
                    rw [← hze] at k2
                    refine ihm ρ4 ρr4 lv4 st4 ws4 ⟨fun k hk => ?_, fun r hr => ?_⟩ ht4 (fun z5 hz5 => ?_)
                    · rw [he4.1 k (by show k < A0.1; rw [z2]; exact hk), hu.2.2.1 k hk]
                    · rw [he4.2 r (by show r < A0.2.2.1; rw [z4]; exact hr), hu.2.2.2 r hr]
                    · rw [atV_uniq huq hz5 k1]
                      have := meas_lt k2
                      omega
                · exact x5 T hT
              · cases hb
          have ht := (chk_ok hR hl hs (hwf pc none ρr (fun _ _ => rfl)) hR0.1 hR0.2.1 hm0 hchk).2.2.1
          exact key 4294967296 ρ ρr lv stA ws ⟨fun _ _ => rfl, fun _ _ => rfl⟩ ht (fun z _ => meas_top _ z)
    · rw [Bool.and_eq_true] at h
      obtain ⟨hg, h⟩ := h
      obtain ⟨x1, x2, x3, x4, x5, x6⟩ := X
      refine hgo _ _ _ _ hg K ce sl ρ ρr lv stA ws ⟨x1, x2, x3, x4, ?_, x6⟩ hl hs
      intro T hT
      rcases List.mem_cons.mp hT with rfl | hT
      · refine ⟨hwf t _ ρr (fun _ _ => rfl), hR0.1, hR0.2.1, hm0, by show A0.1 ≤ A.1; omega, by show A0.2.2.1 ≤ A.2.2.1; omega, fun q hq => (nomatch hq), fun ρ2 ρr2 lv2 st2 ws2 he ht _ => ?_⟩
        have he2 : aExt A.1 A.2.2.1 ρ ρr ρ2 ρr2 := ⟨fun k hk => he.1 k (by show k < A0.1; rw [z2]; exact hk), fun r hr => he.2 r (by show r < A0.2.2.1; rw [z4]; exact hr)⟩
        obtain ⟨ls3, st3, A4, ρ3, ρr3, hb, u3, hR3, hl3, hs3⟩ := mk_ok (T := (t, (ac, as), A0, L, S, C, none)) (body := fun ls2 st2 A4 => match ej mi.2.2.2.2.2.2 t with
          | some cd => ih mi xt t cd ls2 st2 A4 ac as sp k
          | none => false) (hwf t none ρr2 he2.2) ht h
        split at hb
        · rename_i cd2 hcd
          have hu : aUp A ρ ρr A4 ρ3 ρr3 := by
            have e1 : A0.1 ≤ A4.1 := u3.1
            have e2 : A0.2.2.1 ≤ A4.2.2.1 := u3.2.1
            refine ⟨by rw [← z2]; exact e1, by rw [← z4]; exact e2, fun k hk => ?_, fun r hr => ?_⟩
            · rw [u3.2.2.1 k (by show k < A0.1; rw [z2]; exact hk), he2.1 k hk]
            · rw [u3.2.2.2 r (by show r < A0.2.2.1; rw [z4]; exact hr), he2.2 r hr]
          exact IH _ _ _ _ _ _ _ _ _ _ _ hb K ce sl ρ3 ρr3 lv2 st2 ws2 (aCx_cd (aCx_up ⟨x1, x2, x3, x4, x5, x6⟩ hu hR3) (fun q hq => ej_ok hcd q hq)) hl3 hs3
        · cases hb
      · exact x5 T hT
theorem o_n (hI : ∀ o o2 a : Nat, ad[o]? = some a → ad[o2]? = some a → o = o2) (hW : jWf ST so JL) {ih : aRn} (IH : aSn b base LS xs D cl tys Tb NF l CN so ad ST JL md ws0 ih) {mi : eM} {xt : aXt} {pc : Nat} {cd : List eI} {ac as : Nat} {k : aK} {ex : List (Nat × aV) → List aV → aA → List aT → Bool} (hex : aGo b base LS xs D cl tys Tb NF l CN so ad ST JL md ws0 mi pc cd ac as k ex) : ∀ cs : List aX, aGo b base LS xs D cl tys Tb NF l CN so ad ST JL md ws0 mi pc cd ac as k (aopn ST JL ih mi xt pc ex ac as k cs)
  | [] => hex
  | c :: cs => o_L (c := c) hI hW IH (o_n hI hW IH hex cs)
theorem asf_ok {sp : List aT} {pc : Nat} {T : aT} (h : asf sp pc = some T) : T ∈ sp ∧ T.1 = pc := by
  induction sp with
  | nil => cases h
  | cons w r ih =>
    have h : (bif Nat.beq w.1 pc then some w else asf r pc) = some T := h
    cases hb : Nat.beq w.1 pc with
    | true =>
      rw [hb, cond_true] at h
      cases h
      exact ⟨List.mem_cons_self, Nat.eq_of_beq_eq_true hb⟩
    | false =>
      rw [hb, cond_false] at h
      obtain ⟨g1, g2⟩ := ih h
      exact ⟨List.mem_cons_of_mem _ g1, g2⟩
section AV
variable {FL CL : eFL} {MT : Nat → Option (eM × Nat)} {XT : Nat → aXt} {KI KL : Nat → Nat → Option Nat} {CT : Nat → List aCon}
/-- the tables are right -/
def aVal (b base LS : Nat) (xs : Nat → Int32) (D : va_G) (cl : List vw_C) (tys : List (ClassId × FieldType)) (Tb : List Cond) (NF : State → Prop) (l : Launch) (CN : Nat → String) (so ad : List Nat) (ST : Nat → Option aS) (JL : List aJ) (FL CL : eFL) (MT : Nat → Option (eM × Nat)) (KI KL : Nat → Nat → Option Nat) (CT : Nat → List aCon) : Prop :=
  (∀ w ∈ Tb, goodWord w = true) ∧ eNFw base NF ∧ eFOK cl Tb CN FL ∧ gCok cl Tb NF CN CL MT ∧ gCcy Tb CN CL ∧ eKOK Tb CN KI ∧ eJOK Tb CN KL ∧ (∀ o o2 a : Nat, ad[o]? = some a → ad[o2]? = some a → o = o2) ∧ jWf ST so JL ∧ ∀ mno q, MT mno = some q → ∀ c ∈ CT mno, cHolds b base LS xs D cl tys Tb NF l CN so ad ST JL q c
theorem a_D (V : aVal b base LS xs D cl tys Tb NF l CN so ad ST JL FL CL MT KI KL CT) (i : Instr) (len : Nat) (hlen : elen i len = true) : aHs b base LS xs D cl tys Tb NF l CN so ad ST JL md ws0 (aD FL CL MT XT KI KL ST CT JL md i len) i len := by
  obtain ⟨v1, v2, v3, v4, v5, v6, v7, v8, v9, v10⟩ := V
  have bad : aHs b base LS xs D cl tys Tb NF l CN so ad ST JL md ws0 kBad i len := fun ih IH mi xt pc cd ls st A ac as sp k h => (nomatch h)
  cases i with
  | iload j => have q := Nat.eq_of_beq_eq_true hlen; subst q; exact k_load (Or.inl ⟨rfl, rfl⟩)
  | iload_n j => have q := Nat.eq_of_beq_eq_true hlen; subst q; exact k_load (Or.inr ⟨j, rfl, rfl, rfl⟩)
  | lload_n j => have q := Nat.eq_of_beq_eq_true hlen; subst q; exact k_lloa
  | aload j => have q := Nat.eq_of_beq_eq_true hlen; subst q; exact k_loadr (Or.inl ⟨rfl, rfl⟩)
  | aload_n j => have q := Nat.eq_of_beq_eq_true hlen; subst q; exact k_loadr (Or.inr ⟨j, rfl, rfl, rfl⟩)
  | istore j => have q := Nat.eq_of_beq_eq_true hlen; subst q; exact k_stor (Or.inl ⟨rfl, rfl⟩)
  | istore_n j => have q := Nat.eq_of_beq_eq_true hlen; subst q; exact k_stor (Or.inr ⟨j, rfl, rfl, rfl⟩)
  | astore j => have q := Nat.eq_of_beq_eq_true hlen; subst q; exact k_storr (Or.inl ⟨rfl, rfl⟩)
  | astore_n j => have q := Nat.eq_of_beq_eq_true hlen; subst q; exact k_storr (Or.inr ⟨j, rfl, rfl, rfl⟩)
  | lstore_n j => have q := Nat.eq_of_beq_eq_true hlen; subst q; exact k_lsto
  | iconst n => have q := Nat.eq_of_beq_eq_true hlen; subst q; exact k_iconst
  | bipush n =>
    have hl : (Nat.beq len 2 && decide (-128 ≤ n ∧ n < 128)) = true := hlen
    rw [Bool.and_eq_true] at hl
    have q := Nat.eq_of_beq_eq_true hl.1
    subst q
    exact k_bipush
  | sipush n =>
    have hl : (Nat.beq len 3 && decide (-32768 ≤ n ∧ n < 32768)) = true := hlen
    rw [Bool.and_eq_true] at hl
    have q := Nat.eq_of_beq_eq_true hl.1
    subst q
    exact k_sipush
  | lconst n => have q := Nat.eq_of_beq_eq_true hlen; subst q; exact k_lcon
  | ldc_w idx => have q := Nat.eq_of_beq_eq_true hlen; subst q; exact k_ldc v6 (Or.inr ⟨rfl, rfl⟩)
  | ldc idx => have q := Nat.eq_of_beq_eq_true hlen; subst q; exact k_ldc v6 (Or.inl ⟨rfl, rfl⟩)
  | ldc2_w idx => have q := Nat.eq_of_beq_eq_true hlen; subst q; exact k_long v7
  | iinc j n => have q := Nat.eq_of_beq_eq_true hlen; subst q; exact k_inc
  | iadd => have q := Nat.eq_of_beq_eq_true hlen; subst q; exact k_bin aadd_ok (fun a b => g_iadd a b)
  | isub => have q := Nat.eq_of_beq_eq_true hlen; subst q; exact k_bin asub_ok (fun a b => g_isub a b)
  | imul => have q := Nat.eq_of_beq_eq_true hlen; subst q; exact k_bin amul_ok (fun a b => g_imul a b)
  | iand => have q := Nat.eq_of_beq_eq_true hlen; subst q; exact k_bin aand_ok (fun a b => g_iand a b)
  | ior => have q := Nat.eq_of_beq_eq_true hlen; subst q; exact k_bin aor_ok.1 (fun a b => g_ior a b)
  | ixor => have q := Nat.eq_of_beq_eq_true hlen; subst q; exact k_bin aor_ok.2 (fun a b => g_ixor a b)
  | ishl => have q := Nat.eq_of_beq_eq_true hlen; subst q; exact k_bin (op := fun x y => x <<< (y &&& 31)) (aall_ok (fun x y => x <<< (y &&& 31))) (fun a b => g_ishl a b)
  | iushr => have q := Nat.eq_of_beq_eq_true hlen; subst q; exact k_bin aush_ok (fun a b => g_iushr a b)
  | ishr => have q := Nat.eq_of_beq_eq_true hlen; subst q; exact k_bin ashr_ok (fun a b => g_ishr a b)
  | irem => have q := Nat.eq_of_beq_eq_true hlen; subst q; exact k_rem
  | idiv => have q := Nat.eq_of_beq_eq_true hlen; subst q; exact k_div
  | i2b => have q := Nat.eq_of_beq_eq_true hlen; subst q; exact k_i2b
  | i2l => have q := Nat.eq_of_beq_eq_true hlen; subst q; exact k_i2l
  | ladd => have q := Nat.eq_of_beq_eq_true hlen; subst q; exact k_lbin (fun a b => g_ladd a b)
  | lmul => have q := Nat.eq_of_beq_eq_true hlen; subst q; exact k_lbin (fun a b => g_lmul a b)
  | lor => have q := Nat.eq_of_beq_eq_true hlen; subst q; exact k_lbin (fun a b => g_lor a b)
  | lshl => have q := Nat.eq_of_beq_eq_true hlen; subst q; exact k_lshl
  | lcmp => have q := Nat.eq_of_beq_eq_true hlen; subst q; exact k_lcmp
  | dup => have q := Nat.eq_of_beq_eq_true hlen; subst q; exact k_dup
  | dup2 => have q := Nat.eq_of_beq_eq_true hlen; subst q; exact k_dup2
  | dup_x1 => have q := Nat.eq_of_beq_eq_true hlen; subst q; exact k_dupx
  | pop => have q := Nat.eq_of_beq_eq_true hlen; subst q; exact k_pop
  | goto off => have q := Nat.eq_of_beq_eq_true hlen; subst q; exact k_goto
  | ifCond c off => have q := Nat.eq_of_beq_eq_true hlen; subst q; exact k_if
  | if_icmp c off => have q := Nat.eq_of_beq_eq_true hlen; subst q; exact k_icmp
  | tableswitch d lo hi offs => exact k_swit
  | getfield idx => have q := Nat.eq_of_beq_eq_true hlen; subst q; exact k_get v3
  | putfield idx => have q := Nat.eq_of_beq_eq_true hlen; subst q; exact k_put v3 v9
  | arraylength => have q := Nat.eq_of_beq_eq_true hlen; subst q; exact k_alen
  | iaload => have q := Nat.eq_of_beq_eq_true hlen; subst q; exact k_iald
  | baload => have q := Nat.eq_of_beq_eq_true hlen; subst q; exact k_bald
  | aaload => have q := Nat.eq_of_beq_eq_true hlen; subst q; exact k_aald
  | laload => have q := Nat.eq_of_beq_eq_true hlen; subst q; exact k_lald
  | lastore => have q := Nat.eq_of_beq_eq_true hlen; subst q; exact k_last v9
  | iastore => have q := Nat.eq_of_beq_eq_true hlen; subst q; exact k_iast v9
  | bastore => have q := Nat.eq_of_beq_eq_true hlen; subst q; exact k_bast v9
  | ireturn => have q := Nat.eq_of_beq_eq_true hlen; subst q; exact k_ret
  | areturn => have q := Nat.eq_of_beq_eq_true hlen; subst q; exact k_retr
  | lreturn => have q := Nat.eq_of_beq_eq_true hlen; subst q; exact k_retl
  | return_ => have q := Nat.eq_of_beq_eq_true hlen; subst q; exact k_retv
  | invokestatic idx =>
    have q := Nat.eq_of_beq_eq_true hlen
    subst q
    intro ih IH mi xt pc cd ls st A ac as sp k h K ce sl ρ ρr lv stA ws hm X hl hs
    have h : kCall CL MT XT ST CT JL md 0 idx ih mi xt pc cd ls st A ac as sp k = true := h
    unfold kCall at h
    split at h
    · rename_i kd mno n hcl
      cases h7 : Nat.beq kd 7 && Nat.beq 0 0 with
      | true =>
        rw [h7, cond_true] at h
        rw [Bool.and_eq_true] at h7
        have e := Nat.eq_of_beq_eq_true h7.1
        subst e
        exact k_copy v5 v9 ih IH mi xt pc cd ls st A ac as sp k hcl h K ce sl ρ ρr lv stA ws hm X hl hs
      | false =>
        rw [h7, cond_false] at h
        obtain ⟨hk, h⟩ := e_cond h e_ff
        have hk : (Nat.beq kd 0 || Nat.beq kd 3) = true := hk
        rw [Bool.or_eq_true] at hk
        exact k_call v1 v2 v4 v10 (Or.inl ⟨rfl, hk.elim (fun q => Or.inl (Nat.eq_of_beq_eq_true q)) (fun q => Or.inr (Nat.eq_of_beq_eq_true q))⟩) ih IH mi xt pc cd ls st A ac as sp k hcl h K ce sl ρ ρr lv stA ws hm X hl hs
    · cases h
  | invokevirtual idx =>
    have q := Nat.eq_of_beq_eq_true hlen
    subst q
    intro ih IH mi xt pc cd ls st A ac as sp k h K ce sl ρ ρr lv stA ws hm X hl hs
    have h : kCall CL MT XT ST CT JL md 1 idx ih mi xt pc cd ls st A ac as sp k = true := h
    unfold kCall at h
    split at h
    · rename_i kd mno n hcl
      cases h7 : Nat.beq kd 7 && Nat.beq 1 0 with
      | true =>
        rw [Bool.and_eq_true] at h7
        exact absurd h7.2 Bool.false_ne_true
      | false =>
        rw [h7, cond_false] at h
        obtain ⟨hk, h⟩ := e_cond h e_ff
        have hk : (Nat.beq kd 1 || Nat.beq kd 4) = true := hk
        rw [Bool.or_eq_true] at hk
        exact k_call v1 v2 v4 v10 (Or.inr ⟨rfl, hk.elim (fun q => Or.inl (Nat.eq_of_beq_eq_true q)) (fun q => Or.inr (Nat.eq_of_beq_eq_true q))⟩) ih IH mi xt pc cd ls st A ac as sp k hcl h K ce sl ρ ρr lv stA ws hm X hl hs
    · cases h
  | _ => exact bad
/-- THE CHECKER IS RIGHT -/
theorem a_sound (V : aVal b base LS xs D cl tys Tb NF l CN so ad ST JL FL CL MT KI KL CT) : ∀ n, aSn b base LS xs D cl tys Tb NF l CN so ad ST JL md ws0 (aRun FL CL MT XT KI KL ST CT JL md n)
  | 0 => fun mi xt pc cd ls st A ac as sp k h => (nomatch h)
  | n + 1 => fun mi xt pc cd ls st A ac as sp k h => by
    have IH := a_sound V n
    have h : (match asf sp pc with
      | some T => achk ST T ls st A ac as
      | none => aopn ST JL (aRun FL CL MT XT KI KL ST CT JL md n) mi xt pc (aexe FL CL MT XT KI KL ST CT JL md (aRun FL CL MT XT KI KL ST CT JL md n) mi xt pc cd ac as k) ac as k (axf xt pc) ls st A sp) = true := h
    split at h
    · rename_i T hT
      obtain ⟨t1, t2⟩ := asf_ok hT
      intro K ce sl ρ ρr lv stA ws X hl hs
      obtain ⟨s1, s2, s3, s4, s5, s6, s7, s8⟩ := X.2.2.2.2.1 T t1
      obtain ⟨c1, c2, c3, c4⟩ := chk_ok X.2.2.2.1 hl hs s1 s2 s3 s4 h
      have := s8 ρ ρr lv stA ws ⟨fun _ _ => rfl, fun _ _ => rfl⟩ c3 c4
      rw [t2, ← c1, ← c2] at this
      exact this
    · refine o_n V.2.2.2.2.2.2.2.1 V.2.2.2.2.2.2.2.2.1 IH ?_ (axf xt pc) ls st A sp h
      intro ls st A sp h K ce sl ρ ρr lv stA ws X hl hs
      cases cd with
      | nil => cases h
      | cons q r =>
        have h : (bif Nat.beq q.1 pc then aD FL CL MT XT KI KL ST CT JL md q.2.1 q.2.2 (aRun FL CL MT XT KI KL ST CT JL md n) mi xt q.1 r ls st A ac as sp k else false) = true := h
        obtain ⟨hb, h⟩ := e_cond h e_ff
        have hb := Nat.eq_of_beq_eq_true hb
        have hq : q ∈ mi.2.2.2.2.2.2 := X.1.1 q List.mem_cons_self
        rw [← hb]
        exact a_D V q.2.1 q.2.2 (X.1.2 q hq) _ IH mi xt q.1 r ls st A ac as sp k h K ce sl ρ ρr lv stA ws hq (aCx_cd X (fun z hz => X.1.1 z (List.mem_cons_of_mem _ hz))) hl hs
end AV
end AI6
