/-! THE CHECKER IS RIGHT: stops. -/
def vWf (n nr : Nat) (v : aV) : Prop := match v with
  | .inl q => q.1 < n
  | .inr (.inl r) => r < nr
  | .inr (.inr _) => True
def rWf (n nr : Nat) (R : aR) : Prop := match R with
  | .inl w => vWf n nr w
  | .inr q => q.2.1 < n
section AS
variable (b : Nat) (so ad : List Nat) (tys : List (ClassId × FieldType)) (ST : Nat → Option aS) (JL : List aJ) (md : aMd) (ws0 : va_W)
def rRel (ρ : Nat → Int) (ρr : Nat → Nat) (n nr : Nat) (R : aR) (x : Value) : Prop := match R with
  | .inl w => vRel b ad ρ ρr n nr w x
  | .inr q => vOk so ad q.1 x ∧ ∀ z : Int32, x = .int z → ρ q.2.1 + q.2.2 ≤ z.toInt
def rsRel (ρ : Nat → Int) (ρr : Nat → Nat) (n nr : Nat) : List aR → List Value → Prop
  | [], [] => True
  | R :: Rs, x :: xs => rRel b so ad ρ ρr n nr R x ∧ rsRel ρ ρr n nr Rs xs
  | _, _ => False
def rlRel (ρ : Nat → Int) (ρr : Nat → Nat) (n nr : Nat) (L : List (Nat × aR)) (lv : List (Nat × Value)) : Prop := ∀ q ∈ L, ∃ x, (q.1, x) ∈ lv ∧ rRel b so ad ρ ρr n nr q.2 x
def rcRel (ρ : Nat → Int) (ρr : Nat → Nat) (n nr : Nat) (C : List (Nat × Nat × Nat × aR)) (ws : va_W) : Prop := ∀ q ∈ C, ∃ x, gcv ws (ρr q.1) q.2.2.1 = some x ∧ rRel b so ad ρ ρr n nr q.2.2.2 x
def tWf (ρr : Nat → Nat) (T : aT) : Prop := (∀ q ∈ T.2.2.2.1, rWf T.2.2.1.1 T.2.2.1.2.2.1 q.2) ∧ (∀ R ∈ T.2.2.2.2.1, rWf T.2.2.1.1 T.2.2.1.2.2.1 R) ∧ ∀ q ∈ T.2.2.2.2.2.1, q.1 < T.2.2.1.2.2.1 ∧ so[ρr q.1]? = some q.2.1 ∧ rWf T.2.2.1.1 T.2.2.1.2.2.1 q.2.2.2
def tRel (ρ : Nat → Int) (ρr : Nat → Nat) (T : aT) (lv : List (Nat × Value)) (st : List Value) (ws : va_W) : Prop := aRel b so ad tys ST JL ρ ρr md ws0 T.2.2.1 ws ∧ rlRel b so ad ρ ρr T.2.2.1.1 T.2.2.1.2.2.1 T.2.2.2.1 lv ∧ rsRel b so ad ρ ρr T.2.2.1.1 T.2.2.1.2.2.1 T.2.2.2.2.1 st ∧ rcRel b so ad ρ ρr T.2.2.1.1 T.2.2.1.2.2.1 T.2.2.2.2.2.1 ws
end AS
/-- the value at a place -/
def atV (ρr : Nat → Nat) (lv : List (Nat × Value)) (ws : va_W) (w : Nat ⊕ (Nat × Nat)) (z : Int32) : Prop := match w with
  | .inl j => (j, Value.int z) ∈ lv
  | .inr q => gcv ws (ρr q.1) q.2 = some (.int z)
def tRk (ρ : Nat → Int) (ρr : Nat → Nat) (rk : Option (Bool × (Nat × Int) × (Nat ⊕ (Nat × Nat)))) (lv : List (Nat × Value)) (ws : va_W) : Prop := match rk with
  | none => True
  | some q => ∃ z : Int32, atV ρr lv ws q.2.2 z ∧ (if q.1 = true then ρ q.2.1.1 + q.2.1.2 < z.toInt else z.toInt < ρ q.2.1.1 + q.2.1.2)
section AT
variable {b : Nat} {so ad : List Nat} {tys : List (ClassId × FieldType)} {ST : Nat → Option aS} {JL : List aJ} {ρ ρ2 : Nat → Int} {ρr ρr2 : Nat → Nat} {md : aMd} {ws0 ws : va_W} {A : aA}
theorem vRel_wf {n nr : Nat} {v : aV} {x : Value} (h : vRel b ad ρ ρr n nr v x) : vWf n nr v := by
  rcases v with q | r | m
  · exact h.1
  · exact h.1
  · trivial
theorem vRel_cut {n nr n2 nr2 : Nat} {v : aV} {x : Value} (h : vRel b ad ρ ρr n2 nr2 v x) (hw : vWf n nr v) : vRel b ad ρ ρr n nr v x := by
  rcases v with q | r | m
  · exact ⟨hw, h.2⟩
  · exact ⟨hw, h.2⟩
  · match m, h with
    | 0, h => exact h
    | _ + 1, h => exact h
theorem aveq_ok {v w : aV} (h : aveq v w = true) : v = w := by
  rcases v with q | r | m <;> rcases w with q2 | r2 | m2
  · have h : (Nat.beq q.1 q2.1 && ieq q.2 q2.2) = true := h
    rw [Bool.and_eq_true, ieq_iff] at h
    have e1 := Nat.eq_of_beq_eq_true h.1
    rw [show q = q2 from Prod.ext e1 h.2]
  · cases h
  · cases h
  · cases h
  · have h : Nat.beq r r2 = true := h
    rw [Nat.eq_of_beq_eq_true h]
  · cases h
  · cases h
  · cases h
  · have h : Nat.beq m m2 = true := h
    rw [Nat.eq_of_beq_eq_true h]
theorem cSat_ext {n : Nat} {cs : List aC} (h : ∀ k, k < n → ρ2 k = ρ k) (hs : cSat ρ n cs) : cSat ρ2 n cs := by
  obtain ⟨s1, s2, s3, s4⟩ := hs
  exact ⟨s1, s2, by rw [h 0 s1]; exact s3, fun k q hq => cOk_ext (Nat.le_refl n) (acs_lt hq).1 h (s4 k q hq)⟩
theorem rSat_ext {nr : Nat} {rs : List Nat} (h : ∀ r, r < nr → ρr2 r = ρr r) (hs : rSat so ρr nr rs) : rSat so ρr2 nr rs := ⟨hs.1, fun r t hr ht => by rw [h r hr]; exact hs.2 r t hr ht⟩
theorem arc_ok (hR : aRel b so ad tys ST JL ρ ρr md ws0 A ws) {n nr : Nat} {R : aR} {v : aV} {x : Value} (h : arc A R v = true) (hv : vRel b ad ρ ρr A.1 A.2.2.1 v x) (hw : rWf n nr R) : rRel b so ad ρ ρr n nr R x := by
  rcases R with w | ⟨f, pb, pc⟩
  · have h := aveq_ok h
    subst h
    exact vRel_cut hv hw
  · have h : (afit A f v && arcp A pb pc v) = true := h
    rw [Bool.and_eq_true] at h
    refine ⟨afit_ok hR h.1 hv, fun z hz => ?_⟩
    subst hz
    rcases v with y | r | m
    · have h : (bif Nat.beq pb 0 then ile pc iMin else age A pb pc 40 y.1 y.2) = true := h.2
      obtain ⟨z2, e1, e2⟩ := vRel_int hv
      have e1 : z = z2 := by injection e1
      subst e1
      cases hb : Nat.beq pb 0 with
      | true =>
        rw [hb, cond_true, ile_iff] at h
        show ρ pb + pc ≤ z.toInt
        rw [Nat.eq_of_beq_eq_true hb, hR.1.2.2.1]
        have := i_lo z
        omega
      | false =>
        rw [hb, cond_false] at h
        have := age_ok hR.1 _ _ _ h
        show ρ pb + pc ≤ z.toInt
        omega
    · obtain ⟨-, a, -, e⟩ := hv
      cases e
    · match m, hv with
      | 0, ⟨u, e⟩ => cases e
      | _ + 1, hv =>
        have hv : Value.int z = .ref b := hv
        cases hv
theorem arcl_ok (hR : aRel b so ad tys ST JL ρ ρr md ws0 A ws) {n nr : Nat} {ls : List (Nat × aV)} {lv : List (Nat × Value)} (hl : lRel b ad ρ ρr A.1 A.2.2.1 ls lv) : ∀ {L : List (Nat × aR)}, arcl A ls L = true → (∀ q ∈ L, rWf n nr q.2) → rlRel b so ad ρ ρr n nr L lv
  | [], _, _ => fun q hq => absurd hq List.not_mem_nil
  | w :: L, h, hw => by
    have h : (match al ls w.1 with
      | some v => arc A w.2 v && arcl A ls L
      | none => false) = true := h
    cases ha : al ls w.1 with
    | none => rw [ha] at h; cases h
    | some v =>
      rw [ha] at h
      have h : (arc A w.2 v && arcl A ls L) = true := h
      rw [Bool.and_eq_true] at h
      intro q hq
      rcases List.mem_cons.mp hq with rfl | hq
      · obtain ⟨x, g1, g2⟩ := hl _ (al_mem ha)
        exact ⟨x, g1, arc_ok hR h.1 g2 (hw q List.mem_cons_self)⟩
      · exact arcl_ok hR hl h.2 (fun q hq => hw q (List.mem_cons_of_mem _ hq)) q hq
theorem arcs_ok (hR : aRel b so ad tys ST JL ρ ρr md ws0 A ws) {n nr : Nat} : ∀ {S : List aR} {st : List aV} {stA : List Value}, arcs A S st = true → sRel b ad ρ ρr A.1 A.2.2.1 st stA → (∀ R ∈ S, rWf n nr R) → rsRel b so ad ρ ρr n nr S stA
  | [], [], [], _, _, _ => trivial
  | [], [], _ :: _, _, h, _ => absurd h id
  | [], _ :: _, _, h, _, _ => (nomatch h)
  | _ :: _, [], _, h, _, _ => (nomatch h)
  | R :: S, v :: st, stA, h, hs, hw => by
    obtain ⟨x, t, rfl, h1, h2⟩ := sRel_cons hs
    have h : (arc A R v && arcs A S st) = true := h
    rw [Bool.and_eq_true] at h
    exact ⟨arc_ok hR h.1 h1 (hw R List.mem_cons_self), arcs_ok hR h.2 h2 (fun R hR => hw R (List.mem_cons_of_mem _ hR))⟩
theorem arcc_ok (hR : aRel b so ad tys ST JL ρ ρr md ws0 A ws) {n nr : Nat} : ∀ {C : List (Nat × Nat × Nat × aR)}, arcc ST A C = true → (∀ q ∈ C, so[ρr q.1]? = some q.2.1 ∧ rWf n nr q.2.2.2) → rcRel b so ad ρ ρr n nr C ws
  | [], _, _ => fun q hq => absurd hq List.not_mem_nil
  | w :: C, h, hw => by
    have h : ((match amf A.2.2.2.2 w.1 (0, Int.ofNat w.2.2.1) with
      | some v => arc A w.2.2.2 v
      | none => arcf ST w.2.1 w.2.2.1 w.2.2.2) && arcc ST A C) = true := h
    rw [Bool.and_eq_true] at h
    intro q hq
    rcases List.mem_cons.mp hq with rfl | hq
    · obtain ⟨hso, hrw⟩ := hw q List.mem_cons_self
      have h := h.1
      cases hm : amf A.2.2.2.2 q.1 (0, Int.ofNat q.2.2.1) with
      | some v =>
        rw [hm] at h
        obtain ⟨t, ht⟩ := amf_mem hm
        obtain ⟨-, -, -, i, x, g4, g5, g6⟩ := hR.2.2.2 _ ht
        dsimp only at g4 g5 g6
        rw [hR.1.2.2.1] at g4
        have e : i = q.2.2.1 := by
          have : (Int.ofNat q.2.2.1 : Int) = (q.2.2.1 : Int) := rfl
          omega
        subst e
        exact ⟨x, g5, arc_ok hR h g6 hrw⟩
      | none =>
        rw [hm] at h
        have h : arcf ST q.2.1 q.2.2.1 q.2.2.2 = true := h
        obtain ⟨R, hRR⟩ : ∃ R, q.2.2.2 = R := ⟨_, rfl⟩
        rw [hRR] at h hrw ⊢
        rcases R with w0 | ⟨f, pb, pc⟩
        · cases h
        · have h : (match ST q.2.1 with
            | some (.inl ob) => (match eg ob.2 q.2.2.1 with
              | some (.inl w) => arcg w f pb pc
              | _ => false)
            | _ => false) = true := h
          obtain ⟨a, e, w1, w2, w3⟩ := w_at hR.2.2.1.1 hso
          split at h
          · rename_i ob hob
            rw [eg_eq] at h
            split at h
            · rename_i w hw0
              rcases f with u | u
              · have h : (ile u.1 w.1 && (ile w.2 u.2 && (Nat.beq pb 0 && ile pc iMin))) = true := h
                rw [Bool.and_eq_true, Bool.and_eq_true, Bool.and_eq_true, ile_iff, ile_iff, ile_iff] at h
                unfold eOk at w3
                rw [hob] at w3
                obtain ⟨fs, rfl, k1, k2⟩ := w3
                have hl : q.2.2.1 < fs.length := by rw [k1]; exact (List.getElem?_eq_some_iff.mp hw0).1
                have hx := List.getElem?_eq_getElem hl
                obtain ⟨z, e1, e2, e3⟩ := k2 _ _ _ hw0 hx
                refine ⟨.int z, by rw [gcv_at w1, ← e1]; exact hx, ⟨z, rfl, by omega, by omega⟩, fun z2 hz2 => ?_⟩
                have hz2 : z = z2 := by injection hz2
                subst hz2
                show ρ pb + pc ≤ z.toInt
                rw [Nat.eq_of_beq_eq_true h.2.2.1, hR.1.2.2.1]
                have := i_lo z
                omega
              · cases h
            · cases h
          · cases h
    · exact arcc_ok hR h.2 (fun q hq => hw q (List.mem_cons_of_mem _ hq)) q hq
theorem arck_ok {hm : List aE} : ∀ {hm0 : List aE}, arck hm hm0 = true → ∀ e ∈ hm0, ∃ t, (e.1, t, e.2.2.1, e.2.2.2) ∈ hm
  | [], _, e, he => absurd he List.not_mem_nil
  | w :: r, h, e, he => by
    have h : (match amf hm w.1 w.2.2.1 with
      | some v => aveq v w.2.2.2 && arck hm r
      | none => false) = true := h
    cases ha : amf hm w.1 w.2.2.1 with
    | none => rw [ha] at h; cases h
    | some v =>
      rw [ha] at h
      have h : (aveq v w.2.2.2 && arck hm r) = true := h
      rw [Bool.and_eq_true] at h
      rcases List.mem_cons.mp he with rfl | he
      · rw [aveq_ok h.1] at ha
        exact amf_mem ha
      · exact arck_ok h.2 e he
theorem aat_ok (hR : aRel b so ad tys ST JL ρ ρr md ws0 A ws) {ls : List (Nat × aV)} {lv : List (Nat × Value)} (hl : lRel b ad ρ ρr A.1 A.2.2.1 ls lv) {w : Nat ⊕ (Nat × Nat)} {x : Nat × Int} (h : aat ls A.2.2.2.2 w = some (.inl x)) : x.1 < A.1 ∧ ∃ z : Int32, atV ρr lv ws w z ∧ z.toInt = ρ x.1 + x.2 := by
  rcases w with j | q
  · obtain ⟨y, g1, g2⟩ := hl _ (al_mem h)
    obtain ⟨z, rfl, e⟩ := vRel_int g2
    exact ⟨g2.1, z, g1, e⟩
  · obtain ⟨t, ht⟩ := amf_mem (show amf A.2.2.2.2 q.1 (0, Int.ofNat q.2) = some (.inl x) from h)
    obtain ⟨-, -, -, i, y, g4, g5, g6⟩ := hR.2.2.2 _ ht
    dsimp only at g4 g5 g6
    rw [hR.1.2.2.1] at g4
    have e : i = q.2 := by
      have : (Int.ofNat q.2 : Int) = (q.2 : Int) := rfl
      omega
    subst e
    obtain ⟨h1, z, rfl, e⟩ := g6
    exact ⟨h1, z, g5, e⟩
theorem chk_ok (hR : aRel b so ad tys ST JL ρ ρr md ws0 A ws) {ls : List (Nat × aV)} {lv : List (Nat × Value)} {st : List aV} {stA : List Value} (hl : lRel b ad ρ ρr A.1 A.2.2.1 ls lv) (hs : sRel b ad ρ ρr A.1 A.2.2.1 st stA) {T : aT} {ac as : Nat} (hw : tWf so ρr T) (hc : cSat ρ T.2.2.1.1 T.2.2.1.2.1) (hr : rSat so ρr T.2.2.1.2.2.1 T.2.2.1.2.2.2.1) (hm0 : ∀ e ∈ T.2.2.1.2.2.2.2, e.1 < T.2.2.1.2.2.1 ∧ so[ρr e.1]? = some e.2.1 ∧ e.2.2.1.1 < T.2.2.1.1 ∧ vWf T.2.2.1.1 T.2.2.1.2.2.1 e.2.2.2) (h : achk ST T ls st A ac as = true) :
    ac = T.2.1.1 ∧ as = T.2.1.2 ∧ tRel b so ad tys ST JL md ws0 ρ ρr T lv stA ws ∧ tRk ρ ρr T.2.2.2.2.2.2 lv ws := by
  obtain ⟨pc, rm, A0, L, S, C, rk⟩ := T
  have h : ((Nat.beq ac rm.1 && Nat.beq as rm.2) && (arck A.2.2.2.2 A0.2.2.2.2 && (arcl A ls L && (arcs A S st && (arcc ST A C && ark A ls rk))))) = true := h
  simp only [Bool.and_eq_true] at h
  obtain ⟨⟨h1, h2⟩, h3, h4, h5, h6, h7⟩ := h
  obtain ⟨w1, w2, w3⟩ := hw
  dsimp only at w1 w2 w3 hc hr hm0
  refine ⟨Nat.eq_of_beq_eq_true h1, Nat.eq_of_beq_eq_true h2, ⟨⟨hc, hr, hR.2.2.1, fun e he => ?_⟩, arcl_ok hR hl h4 w1, arcs_ok hR h5 hs w2, arcc_ok hR h6 (fun q hq => (w3 q hq).2)⟩, ?_⟩
  · obtain ⟨t, ht⟩ := arck_ok h3 e he
    obtain ⟨-, -, -, i, x, g4, g5, g6⟩ := hR.2.2.2 _ ht
    obtain ⟨k1, k2, k3, k4⟩ := hm0 e he
    exact ⟨k1, k2, k3, i, x, g4, g5, vRel_cut g6 k4⟩
  · cases rk with
    | none => trivial
    | some q =>
      have h7 : (match aat ls A.2.2.2.2 q.2.2 with
        | some (.inl x) => bif q.1 then age A q.2.1.1 (q.2.1.2 + 1) 40 x.1 x.2 else Nat.beq x.1 q.2.1.1 && ile (x.2 + 1) q.2.1.2
        | _ => false) = true := h7
      split at h7
      · rename_i x hx
        obtain ⟨-, z, k1, k2⟩ := aat_ok hR hl hx
        refine ⟨z, k1, ?_⟩
        cases hb : q.1 with
        | true =>
          rw [hb, cond_true] at h7
          rw [if_pos rfl]
          have := age_ok hR.1 _ _ _ h7
          omega
        | false =>
          rw [hb, cond_false, Bool.and_eq_true, ile_iff] at h7
          rw [if_neg Bool.false_ne_true, k2, Nat.eq_of_beq_eq_true h7.1]
          omega
      · cases h7
/-- the state behind a stop -/
noncomputable def amkV (R : aR) (A : aA) (kk : aV → aA → Bool) : Bool := match R with
  | .inl w => kk w A
  | .inr w => afr A w.1 w.2.1 w.2.2 kk
theorem amk_v (hR : aRel b so ad tys ST JL ρ2 ρr2 md ws0 A ws) {n nr : Nat} (h1 : n ≤ A.1) (h2 : nr ≤ A.2.2.1) (he : aExt n nr ρ ρr ρ2 ρr2) {R : aR} {x : Value} (hx : rRel b so ad ρ ρr n nr R x) (hw : rWf n nr R) {kk : aV → aA → Bool} (h : amkV R A kk = true) : aGot b so ad tys ST JL md ws0 ws A ρ2 ρr2 kk x := by
  rcases R with w | ⟨f, pb, pc⟩
  · exact ⟨w, A, ρ2, ρr2, h, aUp.refl, hR, vRel_up h1 h2 he hx⟩
  · exact afr_ok hR h hx.1 (fun z hz => by rw [he.1 pb hw]; exact hx.2 z hz)
theorem amkL_ok {n nr : Nat} : ∀ {L : List (Nat × aR)} {A : aA} {ρ2 : Nat → Int} {ρr2 : Nat → Nat} {acc : List (Nat × aV)} {lv : List (Nat × Value)} {k : List (Nat × aV) → aA → Bool}, aRel b so ad tys ST JL ρ2 ρr2 md ws0 A ws → n ≤ A.1 → nr ≤ A.2.2.1 → aExt n nr ρ ρr ρ2 ρr2 → rlRel b so ad ρ ρr n nr L lv → (∀ q ∈ L, rWf n nr q.2) → lRel b ad ρ2 ρr2 A.1 A.2.2.1 acc lv → amkL L A acc k = true →
    ∃ ls2 A3 ρ3 ρr3, k ls2 A3 = true ∧ aUp A ρ2 ρr2 A3 ρ3 ρr3 ∧ aRel b so ad tys ST JL ρ3 ρr3 md ws0 A3 ws ∧ lRel b ad ρ3 ρr3 A3.1 A3.2.2.1 ls2 lv
  | [], A, ρ2, ρr2, acc, lv, k, hR, _, _, _, _, _, hl, h => ⟨acc, A, ρ2, ρr2, h, aUp.refl, hR, hl⟩
  | q :: L, A, ρ2, ρr2, acc, lv, k, hR, h1, h2, he, hx, hw, hl, h => by
    have h : amkV q.2 A (fun v A => amkL L A ((q.1, v) :: acc) k) = true := h
    obtain ⟨x, x1, x2⟩ := hx q List.mem_cons_self
    obtain ⟨v, A2, ρ3, ρr3, g1, g2, g3, g4⟩ := amk_v (kk := fun v A => amkL L A ((q.1, v) :: acc) k) hR h1 h2 he x2 (hw q List.mem_cons_self) h
    have hl2 : lRel b ad ρ3 ρr3 A2.1 A2.2.2.1 ((q.1, v) :: acc) lv := fun w hw => by
      rcases List.mem_cons.mp hw with rfl | hw
      · exact ⟨x, x1, g4⟩
      · exact lRel_up g2.1 g2.2.1 g2.2.2 hl w hw
    have he2 : aExt n nr ρ ρr ρ3 ρr3 := ⟨fun k hk => by rw [g2.2.2.1 k (Nat.lt_of_lt_of_le hk h1), he.1 k hk], fun r hr => by rw [g2.2.2.2 r (Nat.lt_of_lt_of_le hr h2), he.2 r hr]⟩
    obtain ⟨ls2, A3, ρ4, ρr4, k1, k2, k3, k4⟩ := amkL_ok g3 (Nat.le_trans h1 g2.1) (Nat.le_trans h2 g2.2.1) he2 (fun w hw => hx w (List.mem_cons_of_mem _ hw)) (fun w h => hw w (List.mem_cons_of_mem _ h)) hl2 g1
    exact ⟨ls2, A3, ρ4, ρr4, k1, g2.trans k2, k3, k4⟩
theorem amkS_ok {n nr : Nat} : ∀ {S : List aR} {A : aA} {ρ2 : Nat → Int} {ρr2 : Nat → Nat} {stA : List Value} {k : List aV → aA → Bool}, aRel b so ad tys ST JL ρ2 ρr2 md ws0 A ws → n ≤ A.1 → nr ≤ A.2.2.1 → aExt n nr ρ ρr ρ2 ρr2 → rsRel b so ad ρ ρr n nr S stA → (∀ R ∈ S, rWf n nr R) → amkS S A k = true →
    ∃ st2 A3 ρ3 ρr3, k st2 A3 = true ∧ aUp A ρ2 ρr2 A3 ρ3 ρr3 ∧ aRel b so ad tys ST JL ρ3 ρr3 md ws0 A3 ws ∧ sRel b ad ρ3 ρr3 A3.1 A3.2.2.1 st2 stA
  | [], A, ρ2, ρr2, [], k, hR, _, _, _, _, _, h => ⟨[], A, ρ2, ρr2, h, aUp.refl, hR, trivial⟩
  | [], A, ρ2, ρr2, _ :: _, k, hR, _, _, _, hx, _, h => absurd hx id
  | _ :: _, A, ρ2, ρr2, [], k, hR, _, _, _, hx, _, h => absurd hx id
  | R :: S, A, ρ2, ρr2, x :: stA, k, hR, h1, h2, he, hx, hw, h => by
    have h : amkV R A (fun v A => amkS S A (fun st A => k (v :: st) A)) = true := by
      rcases R with w | w <;> exact h
    obtain ⟨v, A2, ρ3, ρr3, g1, g2, g3, g4⟩ := amk_v (kk := fun v A => amkS S A (fun st A => k (v :: st) A)) hR h1 h2 he hx.1 (hw R List.mem_cons_self) h
    have he2 : aExt n nr ρ ρr ρ3 ρr3 := ⟨fun k hk => by rw [g2.2.2.1 k (Nat.lt_of_lt_of_le hk h1), he.1 k hk], fun r hr => by rw [g2.2.2.2 r (Nat.lt_of_lt_of_le hr h2), he.2 r hr]⟩
    obtain ⟨st2, A3, ρ4, ρr4, k1, k2, k3, k4⟩ := amkS_ok g3 (Nat.le_trans h1 g2.1) (Nat.le_trans h2 g2.2.1) he2 hx.2 (fun w h => hw w (List.mem_cons_of_mem _ h)) g1
    exact ⟨v :: st2, A3, ρ4, ρr4, k1, g2.trans k2, k3, vRel_up k2.1 k2.2.1 k2.2.2 g4, k4⟩
theorem amkC_ok {n nr : Nat} : ∀ {C : List (Nat × Nat × Nat × aR)} {A : aA} {ρ2 : Nat → Int} {ρr2 : Nat → Nat} {k : aA → Bool}, aRel b so ad tys ST JL ρ2 ρr2 md ws0 A ws → n ≤ A.1 → nr ≤ A.2.2.1 → aExt n nr ρ ρr ρ2 ρr2 → rcRel b so ad ρ ρr n nr C ws → (∀ q ∈ C, q.1 < nr ∧ so[ρr q.1]? = some q.2.1 ∧ rWf n nr q.2.2.2) → amkC C A k = true →
    ∃ A3 ρ3 ρr3, k A3 = true ∧ aUp A ρ2 ρr2 A3 ρ3 ρr3 ∧ aRel b so ad tys ST JL ρ3 ρr3 md ws0 A3 ws
  | [], A, ρ2, ρr2, k, hR, _, _, _, _, _, h => ⟨A, ρ2, ρr2, h, aUp.refl, hR⟩
  | q :: C, A, ρ2, ρr2, k, hR, h1, h2, he, hx, hw, h => by
    have h : amkV q.2.2.2 A (fun v A => aput A (q.1, q.2.1, (0, Int.ofNat q.2.2.1), v) (fun A => amkC C A k)) = true := h
    obtain ⟨x, x1, x2⟩ := hx q List.mem_cons_self
    obtain ⟨w1, w2, w3⟩ := hw q List.mem_cons_self
    obtain ⟨v, A2, ρ3, ρr3, g1, g2, g3, g4⟩ := amk_v (kk := fun v A => aput A (q.1, q.2.1, (0, Int.ofNat q.2.2.1), v) (fun A => amkC C A k)) hR h1 h2 he x2 w3 h
    have he2 : aExt n nr ρ ρr ρ3 ρr3 := ⟨fun k hk => by rw [g2.2.2.1 k (Nat.lt_of_lt_of_le hk h1), he.1 k hk], fun r hr => by rw [g2.2.2.2 r (Nat.lt_of_lt_of_le hr h2), he.2 r hr]⟩
    have hrr : ρr3 q.1 = ρr q.1 := he2.2 _ w1
    obtain ⟨A3, k1, k2, k3, k4⟩ := aput_ok g3 g1 ⟨Nat.lt_of_lt_of_le w1 (Nat.le_trans h2 g2.2.1), by show so[ρr3 q.1]? = _; rw [hrr]; exact w2, g3.1.1, q.2.2.1, x, by show (q.2.2.1 : Int) = ρ3 0 + Int.ofNat q.2.2.1; rw [g3.1.2.2.1, Int.zero_add]; rfl, by show gcv ws (ρr3 q.1) _ = _; rw [hrr]; exact x1, g4⟩
    have u2 : aUp A2 ρ3 ρr3 A3 ρ3 ρr3 := aUp.same k2 k3
    have u := g2.trans u2
    obtain ⟨A4, ρ4, ρr4, m1, m2, m3⟩ := amkC_ok k4 (Nat.le_trans h1 u.1) (Nat.le_trans h2 u.2.1) he2 (fun w hw => hx w (List.mem_cons_of_mem _ hw)) (fun w h => hw w (List.mem_cons_of_mem _ h)) k1
    exact ⟨A4, ρ4, ρr4, m1, u.trans m2, m3⟩
theorem mk_ok {T : aT} {lv : List (Nat × Value)} {stA : List Value} (hw : tWf so ρr T) (ht : tRel b so ad tys ST JL md ws0 ρ ρr T lv stA ws) {body : List (Nat × aV) → List aV → aA → Bool} (h : amkL T.2.2.2.1 T.2.2.1 [] (fun ls2 A2 => amkS T.2.2.2.2.1 A2 (fun st2 A3 => amkC T.2.2.2.2.2.1 A3 (fun A4 => body ls2 st2 A4))) = true) :
    ∃ ls2 st2 A4 ρ2 ρr2, body ls2 st2 A4 = true ∧ aUp T.2.2.1 ρ ρr A4 ρ2 ρr2 ∧ aRel b so ad tys ST JL ρ2 ρr2 md ws0 A4 ws ∧ lRel b ad ρ2 ρr2 A4.1 A4.2.2.1 ls2 lv ∧ sRel b ad ρ2 ρr2 A4.1 A4.2.2.1 st2 stA := by
  obtain ⟨t1, t2, t3, t4⟩ := ht
  obtain ⟨w1, w2, w3⟩ := hw
  have he : aExt T.2.2.1.1 T.2.2.1.2.2.1 ρ ρr ρ ρr := ⟨fun _ _ => rfl, fun _ _ => rfl⟩
  obtain ⟨ls2, A2, ρ2, ρr2, g1, g2, g3, g4⟩ := amkL_ok t1 (Nat.le_refl _) (Nat.le_refl _) he t2 w1 (fun q hq => absurd hq List.not_mem_nil) h
  obtain ⟨st2, A3, ρ3, ρr3, k1, k2, k3, k4⟩ := amkS_ok g3 g2.1 g2.2.1 g2.2.2 t3 w2 g1
  have u := g2.trans k2
  obtain ⟨A4, ρ4, ρr4, m1, m2, m3⟩ := amkC_ok k3 u.1 u.2.1 u.2.2 t4 w3 k1
  exact ⟨ls2, st2, A4, ρ4, ρr4, m1, u.trans m2, m3, lRel_up m2.1 m2.2.1 m2.2.2 (lRel_up k2.1 k2.2.1 k2.2.2 g4), sRel_up m2.1 m2.2.1 m2.2.2 k4⟩
/-- a certificate's words, made out -/
theorem ares_ok {q : aQ} {ov : Option aV} {k : aR → Bool} {n nr : Nat} (h0 : 0 < n) (hv : ∀ v, ov = some v → vWf n nr v) (h : ares q ov k = true) : ∃ R, k R = true ∧ rWf n nr R := by
  rcases q with m | ⟨f, od⟩
  · cases ov with
    | none => cases h
    | some v => exact ⟨_, h, hv v rfl⟩
  · cases od with
    | none => exact ⟨_, h, h0⟩
    | some d =>
      cases ov with
      | none => cases h
      | some v =>
        rcases v with x | u
        · have h : (match x.1 with
            | 0 => k (.inr (f, 0, iMin))
            | _ + 1 => efI (x.2 + d) (fun c => k (.inr (f, x.1, c)))) = true := h
          have hx : x.1 < n := hv _ rfl
          obtain ⟨kx, cx⟩ := x
          cases kx with
          | zero => exact ⟨_, h, h0⟩
          | succ kx =>
            dsimp only at h
            rw [efI_eq] at h
            exact ⟨_, h, hx⟩
        · cases h
theorem aresL_ok {ls : List (Nat × aV)} {n nr : Nat} (h0 : 0 < n) (hl : ∀ q ∈ ls, vWf n nr q.2) : ∀ {Q : List (Nat × aQ)} {k : List (Nat × aR) → Bool}, aresL ls Q k = true → ∃ L, k L = true ∧ ∀ q ∈ L, rWf n nr q.2
  | [], k, h => ⟨[], h, fun q hq => absurd hq List.not_mem_nil⟩
  | w :: Q, k, h => by
    obtain ⟨R, h1, h2⟩ := ares_ok (n := n) (nr := nr) h0 (fun v hv => hl _ (al_mem hv)) (show ares w.2 (al ls w.1) (fun R => aresL ls Q (fun L => k ((w.1, R) :: L))) = true from h)
    obtain ⟨L, h3, h4⟩ := aresL_ok h0 hl h1
    refine ⟨_, h3, fun q hq => ?_⟩
    rcases List.mem_cons.mp hq with rfl | hq
    · exact h2
    · exact h4 q hq
theorem aresS_ok {st : List aV} {n nr : Nat} (h0 : 0 < n) (hl : ∀ v ∈ st, vWf n nr v) : ∀ {Q : List aQ} {k : List aR → Bool}, aresS st Q k = true → ∃ S, k S = true ∧ ∀ R ∈ S, rWf n nr R
  | [], k, h => ⟨[], h, fun q hq => absurd hq List.not_mem_nil⟩
  | .inl m :: Q, k, h => by
    obtain ⟨R, h1, h2⟩ := ares_ok (n := n) (nr := nr) h0 (fun v hv => by
      have hv : eg st m = some v := hv
      rw [eg_eq] at hv
      exact hl _ (List.mem_of_getElem? hv)) (show ares (.inl m) (eg st m) (fun R => aresS st Q (fun L => k (R :: L))) = true from h)
    obtain ⟨L, h3, h4⟩ := aresS_ok h0 hl h1
    refine ⟨_, h3, fun q hq => ?_⟩
    rcases List.mem_cons.mp hq with rfl | hq
    · exact h2
    · exact h4 q hq
  | .inr w :: Q, k, h => by
    obtain ⟨R, h1, h2⟩ := ares_ok (n := n) (nr := nr) (ov := none) h0 (fun v hv => (nomatch hv)) (show ares (.inr w) none (fun R => aresS st Q (fun L => k (R :: L))) = true from h)
    obtain ⟨L, h3, h4⟩ := aresS_ok h0 hl h1
    refine ⟨_, h3, fun q hq => ?_⟩
    rcases List.mem_cons.mp hq with rfl | hq
    · exact h2
    · exact h4 q hq
theorem aresC_ok (hR : aRel b so ad tys ST JL ρ ρr md ws0 A ws) {ls : List (Nat × aV)} : ∀ {Q : List (Nat × Nat × aQ)} {k : List (Nat × Nat × Nat × aR) → Bool}, aresC ls A Q k = true → ∃ C, k C = true ∧ ∀ q ∈ C, q.1 < A.2.2.1 ∧ so[ρr q.1]? = some q.2.1 ∧ rWf A.1 A.2.2.1 q.2.2.2
  | [], k, h => ⟨[], h, fun q hq => absurd hq List.not_mem_nil⟩
  | w :: Q, k, h => by
    have h : (match al ls w.1 with
      | some (.inr (.inl r)) => (match asrt A r with
        | some t => ares w.2.2 (amf A.2.2.2.2 r (0, Int.ofNat w.2.1)) (fun R => aresC ls A Q (fun L => k ((r, t, w.2.1, R) :: L)))
        | none => false)
      | _ => false) = true := h
    split at h
    · rename_i r hr
      split at h
      · rename_i t ht
        obtain ⟨s1, s2⟩ := asrt_ok hR ht
        obtain ⟨R, h1, h2⟩ := ares_ok (n := A.1) (nr := A.2.2.1) hR.1.1 (fun v hv => by
          obtain ⟨t0, h0⟩ := amf_mem hv
          obtain ⟨-, -, -, i, x, -, -, g6⟩ := hR.2.2.2 _ h0
          exact vRel_wf g6) h
        obtain ⟨L, h3, h4⟩ := aresC_ok hR h1
        refine ⟨_, h3, fun q hq => ?_⟩
        rcases List.mem_cons.mp hq with rfl | hq
        · exact ⟨s1, s2, h2⟩
        · exact h4 q hq
      · cases h
    · cases h
end AT
