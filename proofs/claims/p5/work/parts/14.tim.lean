/-! A CONTRACT, CHECKED. -/
noncomputable section
def ainit (Q : List aF) : aA → (List aV → aA → Bool) → Bool := List.rec (fun A k => k [] A) (fun f _ ih A k => afr A f 0 iMin (fun v A => ih A (fun vs A => k (v :: vs) A))) Q
def acf1 (A : aA) (os : List (Nat × Nat × Nat × aV)) (q : Nat × Int × Int × Option Int) : Bool := match eg os q.1 with
  | some (r, _, f, .inl x0) => (match amf A.2.2.2.2 r (0, Int.ofNat f) with
    | some (.inl x) => abd A x (fun lo hi => ile q.2.1 lo && ile hi q.2.2.1) && (match q.2.2.2 with
      | none => true
      | some d => age A x0.1 (x0.2 + d) 40 x.1 x.2)
    | _ => false)
  | _ => false
def acfs (A : aA) (os : List (Nat × Nat × Nat × aV)) (F : List (Nat × Int × Int × Option Int)) : Bool := List.rec true (fun q _ ih => acf1 A os q && ih) F
def acrt (A : aA) (f : Option aF) (ret : Option aV) : Bool := match f with
  | none => (match ret with
    | none => true
    | some _ => false)
  | some f => (match ret with
    | some v => afit A f v
    | none => false)
def acen (os : List (Nat × Nat × Nat × aV)) (ret : Option aV) (A : aA) (Q : List (Option aF × List (Nat × Int × Int × Option Int))) : Bool := List.rec false (fun al _ ih => bif acrt A al.1 ret && acfs A os al.2 then true else ih) Q
def aA0 : aA := (1, [(0, 0, (0, 0), 0, 0)], 0, [], [])
def acck (FL CL : eFL) (MT : Nat → Option (eM × Nat)) (XT : Nat → aXt) (KI KL : Nat → Nat → Option Nat) (ST : Nat → Option aS) (CT : Nat → List aCon) (JL : List aJ) (n : Nat) (mi : eM) (xt : aXt) (c : aCon) : Bool := ainit c.1 aA0 (fun vs A => aold ST vs c.2.1 A [] (fun os A => aRun FL CL MT XT KI KL ST CT JL c.2.2.2 n mi xt 0 mi.2.2.2.2.2.2 (aargs vs 0) [] A 0 0 [] (fun ret A => acen os ret A c.2.2.1)))
end
section AI7
variable {b base LS : Nat} {xs : Nat → Int32} {D : va_G} {cl : List vw_C} {tys : List (ClassId × FieldType)} {Tb : List Cond} {NF : State → Prop} {l : Launch} {CN : Nat → String} {so ad : List Nat} {ST : Nat → Option aS} {JL : List aJ} {md : aMd} {ws0 : va_W}
theorem ainit_ok {ws : va_W} : ∀ {Q : List aF} {A : aA} {ρ : Nat → Int} {ρr : Nat → Nat} {asx : List Value} {k : List aV → aA → Bool}, aRel b so ad tys ST JL ρ ρr md ws0 A ws → vsOk so ad Q asx → ainit Q A k = true → ∃ vs A2 ρ2 ρr2, k vs A2 = true ∧ aUp A ρ ρr A2 ρ2 ρr2 ∧ aRel b so ad tys ST JL ρ2 ρr2 md ws0 A2 ws ∧ sRel b ad ρ2 ρr2 A2.1 A2.2.2.1 vs asx
  | [], A, ρ, ρr, [], k, hR, _, h => ⟨[], A, ρ, ρr, h, aUp.refl, hR, trivial⟩
  | [], A, ρ, ρr, _ :: _, k, hR, hv, h => absurd hv id
  | _ :: _, A, ρ, ρr, [], k, hR, hv, h => absurd hv id
  | f :: Q, A, ρ, ρr, x :: asx, k, hR, hv, h => by
    have h : afr A f 0 iMin (fun v A => ainit Q A (fun vs A => k (v :: vs) A)) = true := h
    obtain ⟨v, A2, ρ2, ρr2, g1, g2, g3, g4⟩ := afr_ok hR h hv.1 (i_par0 hR)
    obtain ⟨vs, A3, ρ3, ρr3, k1, k2, k3, k4⟩ := ainit_ok g3 hv.2 g1
    exact ⟨v :: vs, A3, ρ3, ρr3, k1, g2.trans k2, k3, vRel_up k2.1 k2.2.1 k2.2.2 g4, k4⟩
theorem acen_ok {os : List (Nat × Nat × Nat × aV)} {ret : Option aV} {A : aA} : ∀ {Q : List (Option aF × List (Nat × Int × Int × Option Int))}, acen os ret A Q = true → ∃ al ∈ Q, acrt A al.1 ret = true ∧ ∀ q ∈ al.2, acf1 A os q = true
  | [], h => (nomatch h)
  | w :: Q, h => by
    have h : (bif acrt A w.1 ret && acfs A os w.2 then true else acen os ret A Q) = true := h
    cases hb : acrt A w.1 ret && acfs A os w.2 with
    | true =>
      rw [Bool.and_eq_true] at hb
      refine ⟨w, List.mem_cons_self, hb.1, ?_⟩
      have hall : ∀ {F : List (Nat × Int × Int × Option Int)}, acfs A os F = true → ∀ q ∈ F, acf1 A os q = true := fun {F} => by
        induction F with
        | nil => exact fun _ q hq => absurd hq List.not_mem_nil
        | cons u r ih =>
          intro hh q hq
          have hh : (acf1 A os u && acfs A os r) = true := hh
          rw [Bool.and_eq_true] at hh
          rcases List.mem_cons.mp hq with rfl | hq
          · exact hh.1
          · exact ih hh.2 q hq
      exact hall hb.2
    | false =>
      rw [hb, cond_false] at h
      obtain ⟨al, g1, g2⟩ := acen_ok h
      exact ⟨al, List.mem_cons_of_mem _ g1, g2⟩
variable {FL CL : eFL} {MT : Nat → Option (eM × Nat)} {XT : Nat → aXt} {KI KL : Nat → Nat → Option Nat} {CT : Nat → List aCon}
theorem c_holds (V : aVal b base LS xs D cl tys Tb NF l CN so ad ST JL FL CL MT KI KL CT) {n : Nat} {q : eM × Nat} {xt : aXt} {c : aCon} (hk : ¬ q.1.2.2.2.2.2.1 = 20) (hlen : ∀ t ∈ q.1.2.2.2.2.2.2, elen t.2.1 t.2.2 = true) (h : acck FL CL MT XT KI KL ST CT JL n q.1 xt c = true) : cHolds b base LS xs D cl tys Tb NF l CN so ad ST JL q c := by
  intro asx ws hw hj hv
  have hR0 : aRel b so ad tys ST JL (fun _ => 0) (fun _ => 0) c.2.2.2 ws aA0 ws := by
    refine ⟨⟨Nat.one_pos, rfl, rfl, fun k q hq => ?_⟩, ⟨rfl, fun r t hr => absurd hr (Nat.not_lt_zero _)⟩, ⟨hw, hj, fRel_refl⟩, fun e he => absurd he List.not_mem_nil⟩
    obtain ⟨g1, g2⟩ := acs_lt hq
    have hk0 : k = 0 := by
      have : k < 1 := g1
      omega
    subst hk0
    cases g2
    exact ⟨Int.le_refl _, Int.le_refl _, Nat.one_pos, Int.le_refl _, fun z => absurd rfl z⟩
  obtain ⟨vs, A, ρ, ρr, h, -, hR, hs⟩ := ainit_ok hR0 hv h
  obtain ⟨os, A2, ρ2, ρr2, h, u2, hR2, ho⟩ := aold_ok (Q0 := []) (acc := []) hR hs trivial h
  rw [List.append_nil] at ho
  have hs2 := sRel_up u2.1 u2.2.1 u2.2.2 hs
  have e0 := acp_0 hk
  refine a_sound (XT := XT) (md := c.2.2.2) (ws0 := ws) V n q.1 xt 0 _ _ _ A2 0 0 [] _ h _ 0 0 ρ2 ρr2 _ [] ws ⟨⟨fun t ht => ht, hlen⟩, ⟨by omega, by omega⟩, fun z => absurd z hk, hR2, fun T hT => absurd hT List.not_mem_nil, ?_⟩ (aargs_ok 0 hs2) trivial
  intro ret A3 hk3 ρ3 ρr3 ws3 rv u3 hR3 hrt
  obtain ⟨al, g1, g2, g3⟩ := acen_ok hk3
  obtain ⟨w1, w2, w3⟩ := hR3.2.2.1
  refine ⟨w1, w2, w3, al, g1, ?_, fun f hf => ?_⟩
  · unfold acrt at g2
    unfold rtOk
    cases hal : al.1 with
    | none =>
      rw [hal] at g2
      cases ret with
      | none =>
        cases rv with
        | none => trivial
        | some x => exact absurd hrt id
      | some v => cases g2
    | some f =>
      rw [hal] at g2
      cases ret with
      | none => cases g2
      | some v =>
        cases rv with
        | none => exact absurd hrt id
        | some x => exact afit_ok hR3 g2 hrt
  · have hf := g3 f hf
    intro af a o z0 o1 o2 o3 o4
    unfold acf1 at hf
    rw [eg_eq] at hf
    split at hf
    · rename_i r t f0 x0 hx0
      obtain ⟨q0, p1, p2, p3, p4, p5, zz, p6, p7⟩ := oRel_get ho hx0
      dsimp only at p2 p3 p4 p5 p6 p7
      rw [o1] at p1
      have p1 := Option.some.inj p1
      subst p1
      subst p3
      obtain ⟨xa, xa1, xa2⟩ := sRel_get hs2 p2
      rw [o2] at xa1
      have xa1 := Option.some.inj xa1
      subst xa1
      obtain ⟨-, a2, xa3, xa4⟩ := xa2
      have xa4 : a = a2 := by injection xa4
      subst xa4
      have eo := V.2.2.2.2.2.2.2.1 _ _ _ o3 xa3
      subst eo
      rw [o4] at p6
      have p6 := Option.some.inj p6
      have p6 : z0 = zz := by injection p6
      subst p6
      split at hf
      · rename_i x hx
        obtain ⟨x2, y1, y2⟩ := m_fld hR3 hx
        obtain ⟨z1, rfl, e1⟩ := vRel_int y2
        rw [Bool.and_eq_true] at hf
        obtain ⟨lo, hi, hb, b1, b2⟩ := abd_ok hR3.1 hf.1
        rw [Bool.and_eq_true, ile_iff, ile_iff] at hb
        have er : ρr3 r = ρr2 r := u3.2.2.2 r p4
        rw [er] at y1
        refine ⟨z1, y1, by omega, by omega, fun d hd => ?_⟩
        have h2 := hf.2
        rw [hd] at h2
        have h2 : age A3 x0.1 (x0.2 + d) 40 x.1 x.2 = true := h2
        have h3 := age_ok hR3.1 _ _ _ h2
        obtain ⟨z5, e5, e6⟩ := vRel_int p7
        have e5 : z0 = z5 := by injection e5
        subst e5
        rw [u3.2.2.1 _ p7.1] at h3
        omega
      · cases hf
    · cases hf
end AI7
