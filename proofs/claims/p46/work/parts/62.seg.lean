/-! IMAGES: the class's image and restore of an image that there may be, up to the reference's call; then that. -/
section ZSG
variable {E : zE} {oX oM oO oT ax am ao : Nat}
noncomputable section
def zKρ (E : zE) (i z : Int32) (v : Nat) : Nat → Int := fun n => if n = 10 then (v : Int) else zρ E i z n
end
theorem zKρ_n {i z : Int32} {v n : Nat} (h : ¬ n = 10) : zKρ E i z v n = zρ E i z n := if_neg h
theorem zq_s (i z : Int32) : ∀ c : Nat, c < 6 → zρ E i z (3 + c) = (E.2.2.2.1 (zρ E i z 2 + (c : Int)).toNat).toInt := by
  intro c hc
  have h1 : ¬ 3 + c = 0 := by omega
  have h2 : ¬ 3 + c = 1 := by omega
  have h3 : ¬ 3 + c = 2 := by omega
  have h4 : 3 + c < 9 := by omega
  show (if 3 + c = 0 then _ else _) = _
  rw [if_neg h1, if_neg h2, if_neg h3, if_pos h4]
  have e : i.toInt + (((3 + c : Nat) : Int) - 3) = zρ E i z 2 + (c : Int) := by
    show i.toInt + (((3 + c : Nat) : Int) - 3) = i.toInt + (c : Int)
    omega
  rw [e]
theorem zKcs_ok {ρ : Nat → Int} {v k : Nat} (h0 : ρ 0 = 0) (h2 : 0 ≤ ρ 2 ∧ ρ 2 ≤ 3066) (h1 : ρ 2 + 6 ≤ ρ 1 ∧ ρ 1 ≤ 3072) (hs : ∀ c : Nat, c < 6 → -2147483648 ≤ ρ (3 + c) ∧ ρ (3 + c) ≤ 2147483647) (h4 : ρ 4 = (k : Int)) (h9 : 0 ≤ ρ 9 ∧ ρ 9 ≤ 940) (h10 : ρ 10 = (v : Int)) : cSat ρ 11 (zKcs v k) := by
  refine ⟨by decide, rfl, h0, fun j q hq => ?_⟩
  obtain ⟨g1, g2⟩ := acs_lt hq
  have any : ∀ c : Nat, c < 6 → cOk ρ 11 (3 + c) zany := fun c hc => by
    have := hs c hc
    refine ⟨?_, ?_, by decide, ?_, fun z => absurd rfl z⟩
    · show Int.negSucc 2147483647 ≤ _
      omega
    · show _ ≤ (2147483647 : Int)
      omega
    · show ρ 0 + Int.negSucc 2147483647 ≤ _
      omega
  match j, g1, g2 with
  | 0, _, g2 =>
    cases g2
    exact ⟨by rw [h0]; decide, by rw [h0]; decide, by decide, by show ρ 0 + 0 ≤ ρ 0; omega, fun z => absurd rfl z⟩
  | 1, _, g2 =>
    cases g2
    exact ⟨by show 0 ≤ ρ 1; omega, by show ρ 1 ≤ 3072; omega, by decide, by show ρ 2 + 6 ≤ ρ 1; omega, fun z => absurd rfl z⟩
  | 2, _, g2 =>
    cases g2
    exact ⟨by show 0 ≤ ρ 2; omega, by show ρ 2 ≤ 3066; omega, by decide, by show ρ 0 + Int.negSucc 2147483647 ≤ ρ 2; omega, fun z => absurd rfl z⟩
  | 3, _, g2 => cases g2; exact any 0 (by decide)
  | 4, _, g2 =>
    cases g2
    exact ⟨by show (k : Int) ≤ ρ 4; omega, by show ρ 4 ≤ (k : Int); omega, (by decide : (0 : Nat) < 11), by show ρ 0 + Int.negSucc 2147483647 ≤ ρ 4; omega, fun z => absurd rfl z⟩
  | 5, _, g2 => cases g2; exact any 2 (by decide)
  | 6, _, g2 => cases g2; exact any 3 (by decide)
  | 7, _, g2 => cases g2; exact any 4 (by decide)
  | 8, _, g2 => cases g2; exact any 5 (by decide)
  | 9, _, g2 =>
    cases g2
    exact ⟨by show 0 ≤ ρ 9; omega, by show ρ 9 ≤ 940; omega, by decide, by show ρ 0 + Int.negSucc 2147483647 ≤ ρ 9; omega, fun z => absurd rfl z⟩
  | 10, _, g2 =>
    cases g2
    exact ⟨by show (v : Int) ≤ ρ 10; omega, by show ρ 10 ≤ (v : Int); omega, (by decide : (0 : Nat) < 11), by show ρ 0 + Int.negSucc 2147483647 ≤ ρ 10; omega, fun z => absurd rfl z⟩
  | n + 11, g1, _ => omega
theorem z_seg (B : zB E) (A : zA E gJ1) {L : List (Nat × List aCon)} (P : zP E gJ1 L) {pc pc2 v k c : Nat} {sk : List aR} (h : gLwK L pc (zKA v k) (zKT pc2 v k c sk) = true) (hsk : ∀ R ∈ sk, rWf 11 4 R) (F : zFx E oX oM oO oT ax am ao) (hLS : E.2.2.1 ≤ 3072) {i z : Int32} (hi : 0 ≤ i.toInt ∧ i.toInt + 6 ≤ (E.2.2.1 : Int)) (hz : 0 ≤ z.toInt ∧ z.toInt ≤ 940) {ws : va_W} (W : zWl E oM oT z ws) {y : Int32} (hy : gcv ws oX 16 = some (.int y)) (hyv : y.toInt = (v : Int)) (h4 : zρ E i z 4 = (k : Int)) {K : gK} {ce sl : Nat} (hce : ce + 1 ≤ 601024) (hsl : sl + 6 ≤ 7293034)
    (hN : ∀ (ws2 : va_W) (st2 : List Value) (y2 : Int32), wOk (zso E) (zad E) E.2.2.2.2.2.2.1 gST ws2 → jOk (zso E) gJ1 ws2 → fRel (zso E) mdK ws ws2 → gcv ws2 oT 1 = some (.int z) → gcv ws2 oM 2 = some (.int z) → gcv ws2 oX 16 = some (.int y2) → y2.toInt = (c : Int) → (∃ (ρ : Nat → Int) (ρr : Nat → Nat), rsRel E.1 (zso E) (zad E) ρ ρr 11 4 sk st2) → zGl E pc2 (zlv E ax am ao i) st2 ws2 (ce + 0) (sl + 0) K) : zGl E pc (zlv E ax am ao i) [] ws ce sl K := by
  obtain ⟨⟨x1, x2⟩, ⟨m1, m2⟩, ⟨o1, o2⟩, t1, t2⟩ := F
  obtain ⟨w1, w2, w3, w4⟩ := W
  have p2 : zρ E i z 2 = i.toInt := rfl
  have p1 : zρ E i z 1 = (E.2.2.1 : Int) := rfl
  have p9 : zρ E i z 9 = z.toInt := rfl
  have hcs : cSat (zKρ E i z v) 11 (zKcs v k) := zKcs_ok rfl (by rw [zKρ_n (by decide), p2]; omega) (by rw [zKρ_n (by decide), zKρ_n (by decide), p2, p1]; omega) (fun c hc => by
    rw [zKρ_n (by omega), zq_s i z c hc]
    exact ⟨Int32.le_toInt _, Int32.toInt_le _⟩) (by rw [zKρ_n (by decide)]; exact h4) (by rw [zKρ_n (by decide), p9]; exact hz) rfl
  unfold gLwK at h
  split at h
  · rename_i cd hcd
    have hrs : rSat (zso E) (zrr oX oM oO oT) 4 [7, 77, 12, 11] := ⟨rfl, fun r t hr ht => by
      match r, hr, ht with
      | 0, _, ht => cases ht; exact x1
      | 1, _, ht => cases ht; exact m1
      | 2, _, ht => cases ht; exact o1
      | 3, _, ht => cases ht; exact t1
      | n + 4, hr, _ => omega⟩
    have hat : ∃ at_ : Nat, (zad E)[oT]? = some at_ ∧ gcv ws oX 0 = some (.ref at_) := by
      obtain ⟨a, e, g1, g2, g3⟩ := w0_at (ST := gST) (tys := E.2.2.2.2.2.2.1) ⟨w1.1, w1.2.1, fun o t q hq ht => (w1.2.2 o t q hq ht).1⟩ x1
      unfold eOk at g3
      obtain ⟨ob, hob, hf⟩ : ∃ ob, gST 11 = some (.inl ob) ∧ ob.2[0]? = some (.inr (.inl 7)) := ⟨_, rfl, rfl⟩
      rw [hob] at g3
      obtain ⟨fs, rfl, k1, k2⟩ := g3
      have hlt : 0 < fs.length := by rw [k1]; exact (List.getElem?_eq_some_iff.mp hf).1
      have hx := List.getElem?_eq_getElem hlt
      obtain ⟨o, a2, q1, q2, q3⟩ := k2 _ _ _ hf hx
      rw [t2 o q1] at q2
      exact ⟨a2, q2, by rw [gcv_at g1, ← q3]; exact hx⟩
    obtain ⟨at_, a1, a2⟩ := hat
    have e0z : zKρ E i z v 0 = 0 := rfl
    refine a_sound (XT := gXTl) (md := mdK) (ws0 := ws) (z_val B A P) 100000 gm_L [] pc cd _ [] (zKA v k) 0 0 [zKT pc2 v k c sk] _ h K ce sl (zKρ E i z v) (zrr oX oM oO oT) (zlv E ax am ao i) [] ws ⟨⟨ej_ok hcd, fun t ht => List.all_eq_true.mp (show elens gm_L = true from by decide +kernel) t ht⟩, ⟨hce, hsl⟩, fun _ => ⟨(by decide : (8 : Nat) < 11), rfl, hLS, fun c hc => by rw [zKρ_n (by omega), zKρ_n (by decide)]; exact zq_s i z c hc⟩, ⟨hcs, hrs, ⟨w1, w2.1, fRel_refl⟩, ?_⟩, ?_, fun ret A2 hk => (nomatch hk)⟩ ?_ trivial
    · intro e he
      rcases List.mem_cons.mp he with rfl | he
      · exact ⟨(by decide : (0 : Nat) < 4), x1, (by decide : (0 : Nat) < 11), 16, .int y, by show ((16 : Nat) : Int) = zKρ E i z v 0 + 16; rw [e0z]; omega, hy, (by decide : (10 : Nat) < 11), y, rfl, by show y.toInt = (v : Int) + 0; omega⟩
      rcases List.mem_cons.mp he with rfl | he
      · exact ⟨(by decide : (0 : Nat) < 4), x1, (by decide : (0 : Nat) < 11), 0, .ref at_, by show ((0 : Nat) : Int) = zKρ E i z v 0 + 0; rw [e0z]; omega, a2, (by decide : (3 : Nat) < 4), at_, a1, rfl⟩
      rcases List.mem_cons.mp he with rfl | he
      · exact ⟨(by decide : (3 : Nat) < 4), t1, (by decide : (0 : Nat) < 11), 1, .int z, by show ((1 : Nat) : Int) = zKρ E i z v 0 + 1; rw [e0z]; omega, w3, (by decide : (9 : Nat) < 11), z, rfl, by show z.toInt = z.toInt + 0; omega⟩
      have e2 := List.mem_singleton.mp he
      subst e2
      exact ⟨(by decide : (1 : Nat) < 4), m1, (by decide : (0 : Nat) < 11), 2, .int z, by show ((2 : Nat) : Int) = zKρ E i z v 0 + 2; rw [e0z]; omega, w4, (by decide : (9 : Nat) < 11), z, rfl, by show z.toInt = z.toInt + 0; omega⟩
    · intro T hT
      have e := List.mem_singleton.mp hT
      subst e
      refine ⟨⟨?_, hsk, ?_⟩, hcs, hrs, fun e he => absurd he List.not_mem_nil, Nat.le_refl _, Nat.le_refl _, fun q hq => (nomatch hq), ?_⟩
      · intro q hq
        rcases List.mem_cons.mp hq with rfl | hq
        · exact trivial
        rcases List.mem_cons.mp hq with rfl | hq
        · exact (by decide : 0 < 4)
        rcases List.mem_cons.mp hq with rfl | hq
        · exact (by decide : 1 < 4)
        rcases List.mem_cons.mp hq with rfl | hq
        · exact (by decide : 2 < 4)
        have e2 := List.mem_singleton.mp hq
        subst e2
        exact (by decide : 2 < 11)
      · intro q hq
        rcases List.mem_cons.mp hq with rfl | hq
        · exact ⟨(by decide : 3 < 4), t1, (by decide : 9 < 11)⟩
        rcases List.mem_cons.mp hq with rfl | hq
        · exact ⟨(by decide : 1 < 4), m1, (by decide : 9 < 11)⟩
        have e2 := List.mem_singleton.mp hq
        subst e2
        exact ⟨(by decide : 0 < 4), x1, (by decide : 0 < 11)⟩
      · intro ρ2 ρr2 lv2 st2 ws2 hex ht _
        obtain ⟨⟨r1, r2, ⟨r3, r4, r5⟩, r6⟩, s1, s2, s3⟩ := ht
        have e0 : ρr2 0 = oX := hex.2 0 (by decide : (0 : Nat) < 4)
        have e1 : ρr2 1 = oM := hex.2 1 (by decide : (1 : Nat) < 4)
        have e2 : ρr2 2 = oO := hex.2 2 (by decide : (2 : Nat) < 4)
        have e3 : ρr2 3 = oT := hex.2 3 (by decide : (3 : Nat) < 4)
        obtain ⟨y0, l0, v0⟩ := s1 _ List.mem_cons_self
        obtain ⟨y1, l1, q1, b1, c1, d1⟩ := s1 _ (List.mem_cons_of_mem _ List.mem_cons_self)
        obtain ⟨y2, l2, q2, b2, c2, d2⟩ := s1 _ (List.mem_cons_of_mem _ (List.mem_cons_of_mem _ List.mem_cons_self))
        obtain ⟨y3, l3, q3, b3, c3, d3⟩ := s1 _ (List.mem_cons_of_mem _ (List.mem_cons_of_mem _ (List.mem_cons_of_mem _ List.mem_cons_self)))
        obtain ⟨y4, l4, q4, z4, d4, v4⟩ := s1 _ (List.mem_cons_of_mem _ (List.mem_cons_of_mem _ (List.mem_cons_of_mem _ (List.mem_cons_of_mem _ List.mem_cons_self))))
        have v0 : y0 = .ref E.1 := v0
        subst v0 d1 d2 d3 d4
        rw [e0, x2] at c1
        rw [e1, m2] at c2
        rw [e2, o2] at c3
        cases c1; cases c2; cases c3
        have v4 : z4.toInt = ρ2 2 + 0 := v4
        rw [hex.1 2 (by decide : (2 : Nat) < 11), zKρ_n (by decide), p2, Int.add_zero] at v4
        have ez : z4 = i := Int32.toInt_inj.mp v4
        subst ez
        obtain ⟨u1, g1, k0, z1, rfl, f1⟩ := s3 _ List.mem_cons_self
        obtain ⟨u2, g2, k0, z2, rfl, f2⟩ := s3 _ (List.mem_cons_of_mem _ List.mem_cons_self)
        obtain ⟨u3, g3, ⟨y5, rfl, b5, b6⟩, -⟩ := s3 _ (List.mem_cons_of_mem _ (List.mem_cons_of_mem _ List.mem_cons_self))
        have f1 : z1.toInt = ρ2 9 + 0 := f1
        have f2 : z2.toInt = ρ2 9 + 0 := f2
        rw [hex.1 9 (by decide : (9 : Nat) < 11), zKρ_n (by decide), p9, Int.add_zero] at f1 f2
        have ez1 : z1 = z := Int32.toInt_inj.mp f1
        have ez2 : z2 = z := Int32.toInt_inj.mp f2
        subst ez1
        have g1 : gcv ws2 (ρr2 3) 1 = some (.int z1) := g1
        have g2 : gcv ws2 (ρr2 1) 2 = some (.int z2) := g2
        have g3 : gcv ws2 (ρr2 0) 16 = some (.int y5) := g3
        rw [e3] at g1
        rw [e1, ez2] at g2
        rw [e0] at g3
        have b5 : (c : Int) ≤ y5.toInt := b5
        have b6 : y5.toInt ≤ (c : Int) := b6
        refine gG_sub ?_ (hN ws2 st2 y5 r3 r4 r5 g1 g2 g3 (by omega) ⟨ρ2, ρr2, s2⟩)
        intro q hq
        rcases List.mem_cons.mp hq with rfl | hq
        · exact l0
        rcases List.mem_cons.mp hq with rfl | hq
        · exact l1
        rcases List.mem_cons.mp hq with rfl | hq
        · exact l2
        rcases List.mem_cons.mp hq with rfl | hq
        · exact l3
        have e9 := List.mem_singleton.mp hq
        subst e9
        exact l4
    · intro q hq
      rcases List.mem_cons.mp hq with rfl | hq
      · exact ⟨_, List.mem_cons_self, rfl⟩
      rcases List.mem_cons.mp hq with rfl | hq
      · exact ⟨_, List.mem_cons_of_mem _ List.mem_cons_self, (by decide : (0 : Nat) < 4), ax, x2, rfl⟩
      rcases List.mem_cons.mp hq with rfl | hq
      · exact ⟨_, List.mem_cons_of_mem _ (List.mem_cons_of_mem _ List.mem_cons_self), (by decide : (1 : Nat) < 4), am, m2, rfl⟩
      rcases List.mem_cons.mp hq with rfl | hq
      · exact ⟨_, List.mem_cons_of_mem _ (List.mem_cons_of_mem _ (List.mem_cons_of_mem _ List.mem_cons_self)), (by decide : (2 : Nat) < 4), ao, o2, rfl⟩
      have e9 := List.mem_singleton.mp hq
      subst e9
      exact ⟨_, List.mem_cons_of_mem _ (List.mem_cons_of_mem _ (List.mem_cons_of_mem _ (List.mem_cons_of_mem _ List.mem_cons_self))), (by decide : (2 : Nat) < 11), i, rfl, by show i.toInt = i.toInt + 0; omega⟩
  · cases h
end ZSG
