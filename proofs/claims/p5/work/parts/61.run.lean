/-! THE LAW'S LOOP -/
noncomputable section
def zany : aC := (.negSucc 2147483647, .ofNat 2147483647, (0, .negSucc 2147483647), 0, 0)
def zcs (c4 c9 : aC) : List aC := [c9, zany, zany, zany, zany, c4, zany, (.ofNat 0, .ofNat 3066, (0, .negSucc 2147483647), 0, 0), (.ofNat 0, .ofNat 3072, (2, .ofNat 6), 0, 0), (.ofNat 0, .ofNat 0, (0, .ofNat 0), 0, 0)]
def zA0 (c4 c9 : aC) : aA := (10, zcs c4 c9, 4, [7, 77, 12, 11], [(0, 11, (0, 0), .inr (.inl 3)), (3, 7, (0, 1), .inl (9, 0)), (1, 12, (0, 2), .inl (9, 0))])
def zTs (c4 c9 : aC) (rm : Nat × Nat) (v : aR) : aT := (23, rm, (10, zcs c4 c9, 4, [7, 77, 12, 11], []), [(0, .inl (.inr (.inr 1))), (1, .inl (.inr (.inl 0))), (2, .inl (.inr (.inl 1))), (3, .inl (.inr (.inl 2))), (4, .inl (.inl (2, 6)))], [], [(3, 7, 1, v), (1, 12, 2, v)], none)
def zGl (E : zE) (pc : Nat) (lv : List (Nat × Value)) (st : List Value) (ws : va_W) (ce sl : Nat) (K : gK) : Prop := gG E.1 E.2.1 E.2.2.1 E.2.2.2.1 E.2.2.2.2.1 E.2.2.2.2.2.1 E.2.2.2.2.2.2.1 E.2.2.2.2.2.2.2.1 E.2.2.2.2.2.2.2.2.1 E.2.2.2.2.2.2.2.2.2.1 E.2.2.2.2.2.2.2.2.2.2.1 gm_L pc lv st ws ce sl K
/-- the four things that the law holds -/
def zFx (E : zE) (oX oM oO oT ax am ao : Nat) : Prop := ((zso E)[oX]? = some 11 ∧ (zad E)[oX]? = some ax) ∧ ((zso E)[oM]? = some 12 ∧ (zad E)[oM]? = some am) ∧ ((zso E)[oO]? = some 77 ∧ (zad E)[oO]? = some ao) ∧ (zso E)[oT]? = some 7 ∧ ∀ o : Nat, (zso E)[o]? = some 7 → o = oT
def zlv (E : zE) (ax am ao : Nat) (i : Int32) : List (Nat × Value) := [(0, .ref E.1), (1, .ref ax), (2, .ref am), (3, .ref ao), (4, .int i)]
/-- the world between two rounds -/
def zWl (E : zE) (oM oT : Nat) (z : Int32) (ws : va_W) : Prop := wOk (zso E) (zad E) E.2.2.2.2.2.2.1 gST ws ∧ (jOk (zso E) gJ1 ws ∧ (zTp E ws ∧ zTr E ws)) ∧ gcv ws oT 1 = some (.int z) ∧ gcv ws oM 2 = some (.int z)
def zrr (oX oM oO oT : Nat) : Nat → Nat := fun r => match r with
  | 0 => oX
  | 1 => oM
  | 2 => oO
  | _ => oT
/-- what a round makes of the lengths -/
def zVr (ρ : Nat → Int) (v : aR) (z : Int32) : Prop := match v with
  | .inl (.inl q) => z.toInt = ρ q.1 + q.2
  | .inr (.inl w, _) => w.1 ≤ z.toInt ∧ z.toInt ≤ w.2
  | _ => False
def zVw (v : aR) : Bool := match v with
  | .inl (.inl q) => Nat.blt q.1 10
  | .inr (.inl w, q) => ile w.2 w.1 && Nat.blt q.1 10
  | _ => false
end
section ZL
variable {E : zE} {oX oM oO oT ax am ao : Nat}
theorem zcs_ok {ρ : Nat → Int} {c4 c9 : aC} (h0 : ρ 0 = 0) (h2 : 0 ≤ ρ 2 ∧ ρ 2 ≤ 3066) (h1 : ρ 2 + 6 ≤ ρ 1 ∧ ρ 1 ≤ 3072) (hs : ∀ c : Nat, c < 6 → -2147483648 ≤ ρ (3 + c) ∧ ρ (3 + c) ≤ 2147483647) (h4 : cOk ρ 10 4 c4) (h9 : cOk ρ 10 9 c9) : cSat ρ 10 (zcs c4 c9) := by
  refine ⟨by decide, rfl, h0, fun k q hq => ?_⟩
  obtain ⟨g1, g2⟩ := acs_lt hq
  have any : ∀ c : Nat, c < 6 → cOk ρ 10 (3 + c) zany := fun c hc => by
    have := hs c hc
    refine ⟨?_, ?_, by decide, ?_, fun z => absurd rfl z⟩
    · show Int.negSucc 2147483647 ≤ _
      omega
    · show _ ≤ (2147483647 : Int)
      omega
    · show ρ 0 + Int.negSucc 2147483647 ≤ _
      omega
  match k, g1, g2 with
  | 0, _, g2 =>
    cases g2
    exact ⟨by rw [h0]; decide, by rw [h0]; decide, by decide, by show ρ 0 + 0 ≤ ρ 0; omega, fun z => absurd rfl z⟩
  | 1, _, g2 =>
    cases g2
    exact ⟨by show 0 ≤ ρ 1; omega, by show ρ 1 ≤ 3072; omega, by decide, by show ρ 2 + 6 ≤ ρ 1; omega, fun z => absurd rfl z⟩
  | 2, _, g2 =>
    cases g2
    exact ⟨by show 0 ≤ ρ 2; omega, by show ρ 2 ≤ 3066; omega, by decide, by show ρ 0 + Int.negSucc 2147483647 ≤ ρ 2; omega, fun z => absurd rfl z⟩
  | 3, _, g2 => cases g2; exact any 0 (by decide)
  | 4, _, g2 => cases g2; exact h4
  | 5, _, g2 => cases g2; exact any 2 (by decide)
  | 6, _, g2 => cases g2; exact any 3 (by decide)
  | 7, _, g2 => cases g2; exact any 4 (by decide)
  | 8, _, g2 => cases g2; exact any 5 (by decide)
  | 9, _, g2 => cases g2; exact h9
  | n + 10, g1, _ => omega
theorem zVw_ok {v : aR} (h : zVw v = true) : rWf 10 4 v := by
  unfold zVw at h
  split at h
  · exact Nat.le_of_ble_eq_true h
  · rw [Bool.and_eq_true] at h
    exact Nat.le_of_ble_eq_true h.2
  · cases h
theorem zVr_of {b : Nat} {so ad : List Nat} {ρ : Nat → Int} {ρr : Nat → Nat} {v : aR} {x : Value} (hv : zVw v = true) (h : rRel b so ad ρ ρr 10 4 v x) : ∃ z : Int32, x = .int z ∧ zVr ρ v z := by
  unfold zVw at hv
  split at hv
  · obtain ⟨-, z, rfl, hz⟩ := h
    exact ⟨z, rfl, hz⟩
  · obtain ⟨⟨z, rfl, h1, h2⟩, -⟩ := h
    exact ⟨z, rfl, h1, h2⟩
  · cases hv
theorem zVr_eq {ρ : Nat → Int} {v : aR} {z z2 : Int32} (hv : zVw v = true) (h : zVr ρ v z) (h2 : zVr ρ v z2) : z = z2 := by
  unfold zVw at hv
  split at hv
  · have h : z.toInt = _ := h
    have h2 : z2.toInt = _ := h2
    exact Int32.toInt_inj.mp (by rw [h, h2])
  · rw [Bool.and_eq_true, ile_iff] at hv
    obtain ⟨a, b⟩ : _ ≤ z.toInt ∧ z.toInt ≤ _ := h
    obtain ⟨c, d⟩ : _ ≤ z2.toInt ∧ z2.toInt ≤ _ := h2
    exact Int32.toInt_inj.mp (by omega)
  · cases hv
theorem zVr_ext {ρ ρ2 : Nat → Int} {v : aR} {z : Int32} (hv : zVw v = true) (hex : ∀ k, k < 10 → ρ2 k = ρ k) (h : zVr ρ2 v z) : zVr ρ v z := by
  unfold zVw at hv
  split at hv
  · rename_i q
    have hq : q.1 < 10 := Nat.le_of_ble_eq_true hv
    have h : z.toInt = ρ2 q.1 + q.2 := h
    rw [hex _ hq] at h
    exact h
  · exact h
  · cases hv
theorem z_run (B : zB E) (A : zA E gJ1) {L : List (Nat × List aCon)} (P : zP E gJ1 L) {pc : Nat} {c4 c9 : aC} {rm : Nat × Nat} {v : aR} (h : gLw L pc (zA0 c4 c9) (zTs c4 c9 rm v) = true) (hv : zVw v = true) (F : zFx E oX oM oO oT ax am ao) {ρ : Nat → Int} (hcs : cSat ρ 10 (zcs c4 c9)) (hLS : E.2.2.1 ≤ 3072) (h1 : ρ 1 = (E.2.2.1 : Int)) (hs : ∀ c : Nat, c < 6 → ρ (3 + c) = (E.2.2.2.1 (ρ 2 + (c : Int)).toNat).toInt) {z i : Int32} (hi : i.toInt = ρ 2) (hi6 : ρ 2 + 6 ≤ 2147483647) (hz : z.toInt = ρ 9) {ws : va_W} (W : zWl E oM oT z ws) {K : gK} {ce sl : Nat} (hce : ce + 1 ≤ 601024) (hsl : sl + 6 ≤ 7293034)
    (hN : ∀ (ws2 : va_W) (z2 : Int32), zWl E oM oT z2 ws2 → zVr ρ v z2 → zGl E 23 (zlv E ax am ao (i + 6)) [] ws2 (ce + rm.1) (sl + rm.2) K) : zGl E pc (zlv E ax am ao i) [] ws ce sl K := by
  obtain ⟨⟨x1, x2⟩, ⟨m1, m2⟩, ⟨o1, o2⟩, t1, t2⟩ := F
  obtain ⟨w1, w2, w3, w4⟩ := W
  unfold gLw at h
  split at h
  · rename_i cd hcd
    have hrs : rSat (zso E) (zrr oX oM oO oT) 4 [7, 77, 12, 11] := ⟨rfl, fun r t hr ht => by
      match r, hr, ht with
      | 0, _, ht => cases ht; exact x1
      | 1, _, ht => cases ht; exact m1
      | 2, _, ht => cases ht; exact o1
      | 3, _, ht => cases ht; exact t1
      | n + 4, hr, _ => omega⟩
    have hat : ∃ at_ : Nat, (zad E)[oT]? = some at_ ∧ gcv ws oX 0 = some (.ref at_) := by
      obtain ⟨a, e, g1, g2, g3⟩ := w0_at (ST := gST) (tys := E.2.2.2.2.2.2.1) ⟨w1.1, w1.2.1, fun o t q hq ht => (w1.2.2 o t q hq ht).1⟩ x1
      unfold eOk at g3
      obtain ⟨ob, hob, hf⟩ : ∃ ob, gST 11 = some (.inl ob) ∧ ob.2[0]? = some (.inr (.inl 7)) := ⟨_, rfl, rfl⟩
      rw [hob] at g3
      obtain ⟨fs, rfl, k1, k2⟩ := g3
      have hlt : 0 < fs.length := by rw [k1]; exact (List.getElem?_eq_some_iff.mp hf).1
      have hx := List.getElem?_eq_getElem hlt
      obtain ⟨o, a2, q1, q2, q3⟩ := k2 _ _ _ hf hx
      rw [t2 o q1] at q2
      exact ⟨a2, q2, by rw [gcv_at g1, ← q3]; exact hx⟩
    obtain ⟨at_, a1, a2⟩ := hat
    refine a_sound (XT := gXTl) (md := mdL) (ws0 := ws) (z_val B A P) 100000 gm_L [] pc cd _ [] (zA0 c4 c9) 0 0 [zTs c4 c9 rm v] _ h K ce sl ρ (zrr oX oM oO oT) (zlv E ax am ao i) [] ws ⟨⟨ej_ok hcd, fun t ht => List.all_eq_true.mp (show elens gm_L = true from by decide +kernel) t ht⟩, ⟨hce, hsl⟩, fun _ => ⟨(by decide : (8 : Nat) < 10), h1, hLS, hs⟩, ⟨hcs, hrs, ⟨w1, w2.1, fRel_refl⟩, ?_⟩, ?_, fun ret A2 hk => (nomatch hk)⟩ ?_ trivial
    · intro e he
      rcases List.mem_cons.mp he with rfl | he
      · exact ⟨(by decide : (0 : Nat) < 4), x1, (by decide : (0 : Nat) < 10), 0, .ref at_, by show ((0 : Nat) : Int) = ρ 0 + 0; rw [hcs.2.2.1]; omega, a2, (by decide : (3 : Nat) < 4), at_, a1, rfl⟩
      rcases List.mem_cons.mp he with rfl | he
      · exact ⟨(by decide : (3 : Nat) < 4), t1, (by decide : (0 : Nat) < 10), 1, .int z, by show ((1 : Nat) : Int) = ρ 0 + 1; rw [hcs.2.2.1]; omega, w3, (by decide : (9 : Nat) < 10), z, rfl, by show z.toInt = ρ 9 + 0; omega⟩
      have e2 := List.mem_singleton.mp he
      subst e2
      exact ⟨(by decide : (1 : Nat) < 4), m1, (by decide : (0 : Nat) < 10), 2, .int z, by show ((2 : Nat) : Int) = ρ 0 + 2; rw [hcs.2.2.1]; omega, w4, (by decide : (9 : Nat) < 10), z, rfl, by show z.toInt = ρ 9 + 0; omega⟩
    · intro T hT
      have e := List.mem_singleton.mp hT
      subst e
      refine ⟨⟨?_, fun R hR => absurd hR List.not_mem_nil, ?_⟩, hcs, hrs, fun e he => absurd he List.not_mem_nil, Nat.le_refl _, Nat.le_refl _, fun q hq => (nomatch hq), ?_⟩
      · intro q hq
        rcases List.mem_cons.mp hq with rfl | hq
        · exact trivial
        rcases List.mem_cons.mp hq with rfl | hq
        · exact (by decide : 0 < 4)
        rcases List.mem_cons.mp hq with rfl | hq
        · exact (by decide : 1 < 4)
        rcases List.mem_cons.mp hq with rfl | hq
        · exact (by decide : 2 < 4)
        have e2 := List.mem_singleton.mp hq
        subst e2
        exact (by decide : 2 < 10)
      · intro q hq
        rcases List.mem_cons.mp hq with rfl | hq
        · exact ⟨(by decide : 3 < 4), t1, zVw_ok hv⟩
        have e2 := List.mem_singleton.mp hq
        subst e2
        exact ⟨(by decide : 1 < 4), m1, zVw_ok hv⟩
      · intro ρ2 ρr2 lv2 st2 ws2 hex ht _
        obtain ⟨⟨r1, r2, ⟨r3, r4, r5⟩, r6⟩, s1, s2, s3⟩ := ht
        have e0 : ρr2 0 = oX := hex.2 0 (by decide : (0 : Nat) < 4)
        have e1 : ρr2 1 = oM := hex.2 1 (by decide : (1 : Nat) < 4)
        have e2 : ρr2 2 = oO := hex.2 2 (by decide : (2 : Nat) < 4)
        have e3 : ρr2 3 = oT := hex.2 3 (by decide : (3 : Nat) < 4)
        have hst : st2 = [] := by
          cases st2 with
          | nil => rfl
          | cons a t => exact absurd s2 id
        subst hst
        obtain ⟨y0, l0, v0⟩ := s1 _ List.mem_cons_self
        obtain ⟨y1, l1, q1, b1, c1, d1⟩ := s1 _ (List.mem_cons_of_mem _ List.mem_cons_self)
        obtain ⟨y2, l2, q2, b2, c2, d2⟩ := s1 _ (List.mem_cons_of_mem _ (List.mem_cons_of_mem _ List.mem_cons_self))
        obtain ⟨y3, l3, q3, b3, c3, d3⟩ := s1 _ (List.mem_cons_of_mem _ (List.mem_cons_of_mem _ (List.mem_cons_of_mem _ List.mem_cons_self)))
        obtain ⟨y4, l4, q4, z4, d4, v4⟩ := s1 _ (List.mem_cons_of_mem _ (List.mem_cons_of_mem _ (List.mem_cons_of_mem _ (List.mem_cons_of_mem _ List.mem_cons_self))))
        have v0 : y0 = .ref E.1 := v0
        subst v0 d1 d2 d3 d4
        rw [e0, x2] at c1
        rw [e1, m2] at c2
        rw [e2, o2] at c3
        cases c1; cases c2; cases c3
        have v4 : z4.toInt = ρ2 2 + 6 := v4
        rw [hex.1 2 (by decide : (2 : Nat) < 10)] at v4
        have ez : z4 = i + 6 := Int32.toInt_inj.mp (by
          rw [v4, i_add (x := i) (y := 6) (by show -2147483648 ≤ i.toInt + 6; have := i_lo i; have : -2147483648 ≤ i.toInt := this; omega) (by show i.toInt + 6 ≤ 2147483647; omega), hi]
          rfl)
        subst ez
        obtain ⟨u1, g1, k1⟩ := s3 _ List.mem_cons_self
        obtain ⟨u2, g2, k2⟩ := s3 _ (List.mem_cons_of_mem _ List.mem_cons_self)
        obtain ⟨z1, rfl, f1⟩ := zVr_of hv k1
        obtain ⟨z2, rfl, f2⟩ := zVr_of hv k2
        have ezz := zVr_eq hv f1 f2
        subst ezz
        have g1 : gcv ws2 (ρr2 3) 1 = some (.int z1) := g1
        have g2 : gcv ws2 (ρr2 1) 2 = some (.int z1) := g2
        rw [e3] at g1
        rw [e1] at g2
        have kk : zVr ρ v z1 := zVr_ext hv (fun k hk => hex.1 k hk) f1
        refine gG_sub ?_ (hN ws2 z1 ⟨r3, ⟨r4, zTp_fr (md := mdL) (by decide +kernel) r5 w1 r3 w2.2.1, zTr_fr (md := mdL) (by decide +kernel) w2.2.1.1 r5 w2.2.2⟩, g1, g2⟩ kk)
        intro q hq
        rcases List.mem_cons.mp hq with rfl | hq
        · exact l0
        rcases List.mem_cons.mp hq with rfl | hq
        · exact l1
        rcases List.mem_cons.mp hq with rfl | hq
        · exact l2
        rcases List.mem_cons.mp hq with rfl | hq
        · exact l3
        have e9 := List.mem_singleton.mp hq
        subst e9
        exact l4
    · intro q hq
      rcases List.mem_cons.mp hq with rfl | hq
      · exact ⟨_, List.mem_cons_self, rfl⟩
      rcases List.mem_cons.mp hq with rfl | hq
      · exact ⟨_, List.mem_cons_of_mem _ List.mem_cons_self, (by decide : (0 : Nat) < 4), ax, x2, rfl⟩
      rcases List.mem_cons.mp hq with rfl | hq
      · exact ⟨_, List.mem_cons_of_mem _ (List.mem_cons_of_mem _ List.mem_cons_self), (by decide : (1 : Nat) < 4), am, m2, rfl⟩
      rcases List.mem_cons.mp hq with rfl | hq
      · exact ⟨_, List.mem_cons_of_mem _ (List.mem_cons_of_mem _ (List.mem_cons_of_mem _ List.mem_cons_self)), (by decide : (2 : Nat) < 4), ao, o2, rfl⟩
      have e9 := List.mem_singleton.mp hq
      subst e9
      exact ⟨_, List.mem_cons_of_mem _ (List.mem_cons_of_mem _ (List.mem_cons_of_mem _ (List.mem_cons_of_mem _ List.mem_cons_self))), (by decide : (2 : Nat) < 10), i, rfl, by show i.toInt = ρ 2 + 0; omega⟩
  · cases h
end ZL
